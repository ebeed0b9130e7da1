/-! a clause is put out of force -/
theorem tA_self {τ : XS} {a j : Nat} {f : Nat → Int32} : tA (xTA τ a j f) a j = f := by
  unfold tA xTA xT
  simp only [va_up_self]
theorem tA_ne {τ : XS} {a b j k : Nat} {f : Nat → Int32} (h : b ≠ a ∨ k ≠ j) : tA (xTA τ a j f) b k = tA τ b k := by
  unfold tA xTA xT
  by_cases c : b = a
  · subst c
    have hk : k ≠ j := h.resolve_left fun q => q rfl
    simp only [va_up_self, va_up_ne _ _ hk]
  · simp only [va_up_ne _ _ c]
theorem tF_xTA {τ : XS} {a b j k : Nat} {f : Nat → Int32} : tF (xTA τ a j f) b k = tF τ b k := by
  unfold tF xTA xT
  by_cases c : b = a
  · subst c
    simp only [va_up_self]
  · simp only [va_up_ne _ _ c]
theorem ActI.out {σ : MS} {τ : XS} {na a c : Nat} {h : Nat → Nat} {od : List Nat} (g : ActsR σ τ na h od) (inj : ∀ a b, a < na → b < na → h a = h b → a = b) (ha : a < na) (hc : c < 8) {w : Int32} (hw : 0 ≤ w.toInt ∧ w.toInt ≤ 10000) : ActsR (sA σ 21 (upd (σ.2.1 21) (8 * a + c) w)) (xTA τ (h a) 7 (upd (tA τ (h a) 7) c w)) na h od := by
  obtain ⟨g1, g2, g3, g4, g5, g6, g7, g8, g9⟩ := g
  refine ⟨g1, g2, g3, g4, g5, g6, g7, g8, fun a' ha' => ?_⟩
  obtain ⟨y1, y2, n, y3, y4, y5, y6, y7⟩ := g9 a' ha'
  refine ⟨tF_xTA.trans y1, y2, n, y3, y4, tF_xTA.trans y5, by rw [tF_xTA]; exact y6, fun c' hc' => ?_⟩
  obtain ⟨z1, z2, z3, z4⟩ := y7 c' hc'
  have e7 : tA (xTA τ (h a) 7 (upd (tA τ (h a) 7) c w)) (h a') 7 c' = upd (σ.2.1 21) (8 * a + c) w (8 * a' + c') := by
    by_cases q : a' = a
    · subst q
      rw [tA_self]
      by_cases q2 : c' = c
      · rw [q2, pk_us, pk_us]
      · rw [pk_un q2, pk_un (by omega)]; exact z2
    · rw [tA_ne (Or.inl fun k => q (inj _ _ ha' ha k)), pk_un (by omega)]; exact z2
  refine ⟨by rw [tA_ne (Or.inr (by decide))]; exact z1, e7, ?_, ?_⟩
  · show 0 ≤ (upd (σ.2.1 21) (8 * a + c) w (8 * a' + c')).toInt ∧ (upd (σ.2.1 21) (8 * a + c) w (8 * a' + c')).toInt ≤ 10000
    by_cases q : 8 * a' + c' = 8 * a + c
    · rw [q, pk_us]; exact hw
    · rw [pk_un q]; exact z3
  · intro s t h1 h2 h3 h4 h5 h6 h7
    rw [tA_ne (Or.inr (by decide)), tA_ne (Or.inr (by decide)), tA_ne (Or.inr (by decide))]
    exact z4 s t h1 h2 h3 h4 h5 (h6.trans (tA_ne (Or.inr (by decide)))) h7
theorem st17 : St17 (InvA ActI) := by
  intro σ τ xs i h
  have same : InvA ActI σ τ := h
  obtain ⟨np, ne, bl, hP, hB, hM, na, hh, od, g1, g2, g3, g4, g5, g6, g7, g8⟩ := h
  generalize xs (i + 1) = p0
  generalize xs (i + 2) = p1
  generalize xs (i + 3) = p2
  unfold W_out M_out
  rw [g2, M_in_N (by omega), bind_so, b01_if]
  by_cases c : 0 ≤ p0 ∧ p0 < nI na
  case neg =>
    rw [actAt_none g3.2.1 c, bind_so, if_neg c]
    exact ⟨_, _, _, rfl, rfl, same⟩
  rw [if_pos c]
  obtain ⟨a, ha, rfl⟩ := inN c (by omega)
  obtain ⟨k1, k2⟩ := g3.2.2.1 a ha
  obtain ⟨y1, y2, nc, y3, y4, y5, y6, y7⟩ := g3.2.2.2.2.2.2.2.2 a ha
  rw [actAt_some g3 ha, bind_so, oN_some, oA_some k2, hasClause_eq k2 y5, bind_so, b01_if, rd_nI (by omega) (by decide), y4, M_in_N (by omega), bind_so, b01_if, W_isDay_eq, M_isDay_eq, bind_so, bind_so, b01_if, b01_if]
  by_cases c1 : 0 ≤ p1 ∧ p1 < nI nc
  case neg =>
    rw [if_neg c1, if_neg c1]
    exact ⟨_, _, _, rfl, rfl, same⟩
  rw [if_pos c1, if_pos c1]
  by_cases c2 : 0 ≤ p2 ∧ p2 ≤ 9999
  case neg =>
    rw [if_neg c2, if_neg c2]
    exact ⟨_, _, _, rfl, rfl, same⟩
  rw [if_pos c2, if_pos c2]
  obtain ⟨q, hq, rfl⟩ := inN c1 (by omega)
  obtain ⟨z1, z2, z3, z4⟩ := y7 q hq
  have fin : ∀ w : Int32, 0 ≤ w.toInt ∧ w.toInt ≤ 10000 → InvA ActI (sA σ 21 (upd (σ.2.1 21) (8 * a + q) w)) (xTA τ (hh a) 7 (upd (tA τ (hh a) 7) q w)) := fun w hw => ⟨np, ne, bl, hP, hB, hM, na, hh, od, g1, g2, ActI.out g3 g4 ha (by omega) hw, g4, g5, g6, g7, g8⟩
  unfold W_out_J54 M_out_J77 mnI
  simp only [oA_some k2, rd_nI (show q < 8 by omega) (show 8 < 2 ^ 31 by decide), wr_nI (show q < 8 by omega) (show 8 < 2 ^ 31 by decide), cl_nI (show q < 2 ^ 31 by omega), nI_mul8, nI_add, rd_nI (show 8 * a + q < 72 by omega) (show 72 < 2 ^ 31 by decide), wr_nI (show 8 * a + q < 72 by omega) (show 72 < 2 ^ 31 by decide), cl_nI (show 8 * a + q < 2 ^ 31 by omega), z2]
  have hd := dayOk_of c2
  unfold DayOk at hd
  by_cases c3 : σ.2.1 21 (8 * a + q) ≤ p2
  · have c4 : ¬ p2 < σ.2.1 21 (8 * a + q) := by rw [i32_lt]; rw [i32_le] at c3; omega
    rw [if_pos c3, if_neg c4]
    by_cases c5 : σ.2.1 21 (8 * a + q) = 10000
    · rw [if_pos c5, if_pos c5, if_neg (show ¬ (1 : Int32) = 0 by decide)]
      exact ⟨_, _, _, rfl, rfl, fin _ z3⟩
    · rw [if_neg c5, if_neg c5, if_pos trivial]
      exact ⟨_, _, _, rfl, rfl, fin _ z3⟩
  · have c4 : p2 < σ.2.1 21 (8 * a + q) := by rw [i32_lt]; rw [i32_le] at c3; omega
    rw [if_neg c3, if_pos c4]
    by_cases c5 : σ.2.1 21 (8 * a + q) = 10000
    · rw [if_pos c5, if_pos c5, if_neg (show ¬ (1 : Int32) = 0 by decide)]
      exact ⟨_, _, _, rfl, rfl, fin _ ⟨hd.1, by omega⟩⟩
    · rw [if_neg c5, if_neg c5, if_pos trivial]
      exact ⟨_, _, _, rfl, rfl, fin _ ⟨hd.1, by omega⟩⟩
