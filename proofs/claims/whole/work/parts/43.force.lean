/-! an act and its clauses are asked for, and a clause is put out of force -/
theorem actAt_none {τ : XS} {na : Nat} (h : τ.1 302 = nI na) {p : Int32} (c : ¬ (0 ≤ p ∧ p < nI na)) : Lw_actAt τ p = some none := by
  unfold Lw_actAt Lw_actAt_J21 Lw_actAt_J22
  rw [h, in_if3, if_neg c]
theorem actAt_some {σ : MS} {τ : XS} {na a : Nat} {h : Nat → Nat} {od : List Nat} (g : ActsR σ τ na h od) (ha : a < na) : Lw_actAt τ (nI a) = some (some (h a)) := by
  unfold Lw_actAt Lw_actAt_J21 Lw_actAt_J22
  have h9 := g.1
  rw [g.2.1, in_if3, if_pos ⟨nI_le0 (by omega), by rw [nI_ltI (by omega) (by omega)]; exact ha⟩, rd_nI (by omega) (by decide), (g.2.2.1 a ha).1]
theorem oA_some {β : Type} {n a : Nat} {k : Nat → Option β} (h : a < n) : oA n (some a) k = k a := by
  exact if_pos h
theorem hasClause_eq {τ : XS} {a nc : Nat} (ha : a < nA τ) (h : tF τ a 2 = nI nc) (p : Int32) : Ac_hasClause τ a p = some (b01 (0 ≤ p ∧ p < nI nc)) := by
  unfold Ac_hasClause gA b01
  rw [if_pos ha, h, in_if3]
  by_cases c : 0 ≤ p ∧ p < nI nc
  · rw [if_pos c, if_pos c]
  · rw [if_neg c, if_neg c]
theorem st16 : St16 (InvA ActI) := by
  intro σ τ xs i h
  have same : InvA ActI σ τ := h
  obtain ⟨np, ne, bl, hP, hB, hM, na, hh, od, g1, g2, g3, -⟩ := h
  generalize xs (i + 1) = p0
  generalize xs (i + 2) = p1
  unfold W_force M_force
  rw [g2, M_in_N (by omega), bind_so, b01_if]
  by_cases c : 0 ≤ p0 ∧ p0 < nI na
  case neg =>
    rw [actAt_none g3.2.1 c, bind_so, if_neg c]
    exact ⟨_, rfl, rfl, same⟩
  rw [if_pos c]
  obtain ⟨a, ha, rfl⟩ := inN c (by omega)
  obtain ⟨k1, k2⟩ := g3.2.2.1 a ha
  obtain ⟨y1, y2, nc, y3, y4, y5, y6, y7⟩ := g3.2.2.2.2.2.2.2.2 a ha
  rw [actAt_some g3 ha, bind_so]
  show ∃ r, (if p1 = 0 then oA (nA τ) (some (hh a)) _ else _) = some r ∧ _
  simp only [oA_some k2, rd_nI (show a < 9 by omega) (show 9 < 2 ^ 31 by decide), y1, y4, y5, hasClause_eq k2 y5, bind_so, b01_if]
  by_cases c0 : p1 = 0
  · rw [if_pos c0, if_pos c0]; exact ⟨_, rfl, rfl, same⟩
  rw [if_neg c0, if_neg c0]
  by_cases c1 : p1 = 1
  · rw [if_pos c1, if_pos c1]; exact ⟨_, rfl, rfl, same⟩
  rw [if_neg c1, if_neg c1]
  by_cases c2 : p1 = 2
  · rw [if_pos c2, if_pos c2]
    by_cases c3 : tF τ (hh a) 1 = 0
    · rw [if_pos c3, if_pos (y6.mp c3)]; exact ⟨_, rfl, rfl, same⟩
    · rw [if_neg c3, if_neg fun g => c3 (y6.mpr g)]; exact ⟨_, rfl, rfl, same⟩
  rw [if_neg c2, if_neg c2, M_in_N (by omega), bind_so, b01_if]
  have v10 : p1.toInt ≥ -2147483638 → (p1 - 10).toInt = p1.toInt - 10 := by
    intro g
    have := Int32.toInt_lt p1
    rw [Int32.toInt_sub, show (10 : Int32).toInt = 10 from rfl, show (2 : Nat) ^ 32 = 4294967296 from rfl]
    exact Int.bmod_eq_of_le (by omega) (by omega)
  by_cases c5 : p1 < 10
  · rw [if_pos c5, if_neg]
    · exact ⟨_, rfl, rfl, same⟩
    rintro ⟨q1, q2⟩
    have l1 := Int32.le_toInt p1
    rw [i32_lt, show (10 : Int32).toInt = 10 from rfl] at c5
    rw [i32_le, show (0 : Int32).toInt = 0 from rfl] at q1
    rw [i32_lt, nI_i (by omega)] at q2
    by_cases c6 : p1.toInt ≥ -2147483638
    · rw [v10 c6] at q1; omega
    · have : (p1 - 10).toInt = p1.toInt - 10 + 4294967296 := by
        rw [Int32.toInt_sub, show (10 : Int32).toInt = 10 from rfl, show (2 : Nat) ^ 32 = 4294967296 from rfl, ← Int.add_bmod_right]
        exact Int.bmod_eq_of_le (by omega) (by omega)
      rw [this] at q2; omega
  rw [if_neg c5]
  by_cases c6 : 0 ≤ p1 - 10 ∧ p1 - 10 < nI nc
  case neg =>
    rw [if_neg c6, if_neg c6]
    exact ⟨_, rfl, rfl, same⟩
  rw [if_pos c6, if_pos c6]
  obtain ⟨q, hq, e⟩ := inN c6 (by omega)
  have e2 : (8 * nI a + p1) - 10 = nI (8 * a + q) := by
    rw [Int32.sub_eq_add_neg, Int32.add_assoc, ← Int32.sub_eq_add_neg, e, nI_mul8, nI_add]
  rw [e, e2, rd_nI (by omega) (by decide), rd_nI (by omega) (by decide), (y7 q hq).1]
  exact ⟨_, rfl, rfl, same⟩
