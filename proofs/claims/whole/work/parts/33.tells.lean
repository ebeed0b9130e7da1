/-! an entry is told: both sides; laid by 33.py -/
def mE (σ : MS) (ne : Nat) (p0 p1 p2 p3 p4 : Int32) : MS := sA (sA (sA (sA (sA σ 8 (upd (σ.2.1 8) ne p0)) 9 (upd (σ.2.1 9) ne p1)) 10 (upd (σ.2.1 10) ne p2)) 11 (upd (σ.2.1 11) ne p3)) 12 (upd (σ.2.1 12) ne p4)
def xE (τ : XS) (ne : Nat) (p0 p1 p2 p3 p4 : Int32) : XS := xA (xA (xA (xA (xA (xA τ 107 (upd (τ.2.1 107) ne p0)) 108 (upd (τ.2.1 108) ne p1)) 109 (upd (τ.2.1 109) ne p2)) 110 (upd (τ.2.1 110) ne p3)) 111 (upd (τ.2.1 111) ne p4)) 112 (upd (τ.2.1 112) ne 200)
theorem M_tells_full {σ : MS} (h7 : σ.1 7 = nI 200) (p0 p1 p2 p3 p4 : Int32) : M_tells σ p0 p1 p2 p3 p4 = some (-4, σ) := by
  unfold M_tells
  rw [h7, if_pos (by decide)]
theorem M_tells_eq {σ : MS} {ne : Nat} (h7 : σ.1 7 = nI ne) (hne : ne < 200) (p0 p1 p2 p3 p4 : Int32) : M_tells σ p0 p1 p2 p3 p4 = some (nI ne, sI (sI (mE σ ne p0 p1 p2 p3 p4) 13 (σ.1 13 + (if p0 = 2 then 1 else 0))) 7 (nI (ne + 1))) := by
  unfold M_tells
  rw [h7, if_neg (by rw [show (200 : Int32) = nI 200 from rfl, nI_eq (by omega) (by omega)]; omega)]
  simp only [sA_1, h7, wr_nI (show ne < 200 by omega) (show 200 < 2 ^ 31 by decide), cl_nI (show ne < 2 ^ 31 by omega), sA_ne (show (9 : Nat) ≠ 8 by decide), sA_ne (show (10 : Nat) ≠ 8 by decide), sA_ne (show (10 : Nat) ≠ 9 by decide), sA_ne (show (11 : Nat) ≠ 8 by decide), sA_ne (show (11 : Nat) ≠ 9 by decide), sA_ne (show (11 : Nat) ≠ 10 by decide), sA_ne (show (12 : Nat) ≠ 8 by decide), sA_ne (show (12 : Nat) ≠ 9 by decide), sA_ne (show (12 : Nat) ≠ 10 by decide), sA_ne (show (12 : Nat) ≠ 11 by decide)]
  have e : ∀ v, M_tells_J80 (mE σ ne p0 p1 p2 p3 p4) v (σ.1 13) = some (nI ne, sI (sI (mE σ ne p0 p1 p2 p3 p4) 13 (σ.1 13 + v)) 7 (nI (ne + 1))) := by
    intro v
    unfold M_tells_J80
    have h : (sI (mE σ ne p0 p1 p2 p3 p4) 13 (σ.1 13 + v)).1 7 = nI ne := (sI_ne (by decide)).trans h7
    rw [h, sI_get, nI_1, ← nI_1, Int32.add_sub_cancel, nI_1]
  by_cases c : p0 = 2
  · rw [if_pos c, if_pos c]
    exact e 1
  · rw [if_neg c, if_neg c]
    exact e 0
theorem Bk_addEntry_full {τ : XS} (h : τ.1 113 = nI 200) (p0 p1 p2 p3 p4 : Int32) : Bk_addEntry τ p0 p1 p2 p3 p4 = some (-4, τ) := by
  unfold Bk_addEntry
  rw [h, if_neg (by decide)]
theorem Bk_addEntry_eq {τ : XS} {ne : Nat} (h7 : τ.1 113 = nI ne) (hne : ne < 200) (p0 p1 p2 p3 p4 : Int32) : Bk_addEntry τ p0 p1 p2 p3 p4 = Bk_addEntry_J87 (if p0 = 2 then xI (xE τ ne p0 p1 p2 p3 p4) 106 1 else xE τ ne p0 p1 p2 p3 p4) p0 p1 := by
  unfold Bk_addEntry
  rw [h7, if_pos (by rw [show (200 : Int32) = nI 200 from rfl, nI_ltI (by omega) (by omega)]; omega)]
  simp only [xA_1, h7, wr_nI (show ne < 200 by omega) (show 200 < 2 ^ 31 by decide), cl_nI (show ne < 2 ^ 31 by omega), xA_ne (show (108 : Nat) ≠ 107 by decide), xA_ne (show (109 : Nat) ≠ 107 by decide), xA_ne (show (109 : Nat) ≠ 108 by decide), xA_ne (show (110 : Nat) ≠ 107 by decide), xA_ne (show (110 : Nat) ≠ 108 by decide), xA_ne (show (110 : Nat) ≠ 109 by decide), xA_ne (show (111 : Nat) ≠ 107 by decide), xA_ne (show (111 : Nat) ≠ 108 by decide), xA_ne (show (111 : Nat) ≠ 109 by decide), xA_ne (show (111 : Nat) ≠ 110 by decide), xA_ne (show (112 : Nat) ≠ 107 by decide), xA_ne (show (112 : Nat) ≠ 108 by decide), xA_ne (show (112 : Nat) ≠ 109 by decide), xA_ne (show (112 : Nat) ≠ 110 by decide), xA_ne (show (112 : Nat) ≠ 111 by decide)]
  by_cases c : p0 = 2
  · rw [if_pos c, if_pos c]; rfl
  · rw [if_neg c, if_neg c]; rfl
theorem snoc_of {α : Type} : ∀ (l : List α) {m : Nat}, l.length = m + 1 → ∃ a x, l = a ++ [x] ∧ a.length = m := by
  intro l m h
  rcases List.eq_nil_or_concat l with g | ⟨a, x, g⟩
  · subst g; simp at h
  · refine ⟨a, x, by rw [g]; simp, ?_⟩
    subst g
    simp at h
    exact h
/-- the new number is put at its place by days -/
theorem Bk_putByDay_loop (ne : Nat) (hne : ne < 200) : ∀ (m fu : Nat) (τ : XS) (pre suf : List Nat), pre.length = m → m < fu → m + suf.length < 200 → (∀ x, x ∈ pre → x < ne) → (∀ (k : Nat) (h : k < pre.length), τ.2.1 114 k = nI pre[k]) → (∀ (k : Nat) (h : k < suf.length), τ.2.1 114 (pre.length + 1 + k) = nI suf[k]) → (pre ++ suf).Pairwise (ltD (τ.2.1 110)) → (∀ x, x ∈ suf → τ.2.1 110 ne < τ.2.1 110 x) → τ.1 115 = nI (m + suf.length) ∨ True → ∃ (f : Nat → Int32) (bl' : List Nat), (∀ z, τ.1 115 = nI z → Bk_putByDay_L16_r fu τ (nI ne) (nI m) = some ((), xI (xA τ 114 f) 115 (nI (z + 1)))) ∧ bl'.length = m + suf.length + 1 ∧ (∀ (k : Nat) (h : k < bl'.length), f k = nI bl'[k]) ∧ bl'.Pairwise (ltD (τ.2.1 110)) ∧ (∀ x, x ∈ bl' ↔ x = ne ∨ x ∈ pre ++ suf) ∧ (pre ++ suf).length < bl'.length := by
  intro m
  have stop : ∀ (m fu : Nat) (τ : XS) (pre suf : List Nat), pre.length = m → m + suf.length < 200 → (∀ (k : Nat) (h : k < pre.length), τ.2.1 114 k = nI pre[k]) → (∀ (k : Nat) (h : k < suf.length), τ.2.1 114 (pre.length + 1 + k) = nI suf[k]) → (pre ++ suf).Pairwise (ltD (τ.2.1 110)) → (∀ x, x ∈ suf → τ.2.1 110 ne < τ.2.1 110 x) → (∀ x, x ∈ pre → ltD (τ.2.1 110) x ne) → (∃ (f : Nat → Int32) (bl' : List Nat), (∀ z, τ.1 115 = nI z → Bk_putByDay_J62 τ (nI ne) (nI m) = some ((), xI (xA τ 114 f) 115 (nI (z + 1)))) ∧ bl'.length = m + suf.length + 1 ∧ (∀ (k : Nat) (h : k < bl'.length), f k = nI bl'[k]) ∧ bl'.Pairwise (ltD (τ.2.1 110)) ∧ (∀ x, x ∈ bl' ↔ x = ne ∨ x ∈ pre ++ suf) ∧ (pre ++ suf).length < bl'.length) := by
    intro m fu τ pre suf hm hl h1 h2 h3 h4 h5
    refine ⟨upd (τ.2.1 114) m (nI ne), pre ++ ne :: suf, ?_, ?_, ?_, ?_, ?_, ?_⟩
    · intro z hz
      unfold Bk_putByDay_J62
      rw [wr_nI (by omega) (by decide), cl_nI (by omega), xA_1, hz, nI_1]
    · rw [List.length_append, List.length_cons, hm]; omega
    · intro k hk
      rw [List.length_append, List.length_cons] at hk
      rcases Nat.lt_trichotomy k m with g | g | g
      · rw [pk_un (by omega), h1 k (by omega), List.getElem_append_left (by omega)]
      · subst g
        rw [pk_us, List.getElem_append_right (by omega)]
        simp [hm]
      · obtain ⟨j, rfl⟩ : ∃ j, k = pre.length + 1 + j := ⟨k - (pre.length + 1), by omega⟩
        rw [pk_un (by omega), h2 j (by omega), List.getElem_append_right (by omega)]
        congr 1
        simp [show pre.length + 1 + j - pre.length = j + 1 by omega]
    · rw [List.pairwise_append] at h3 ⊢
      refine ⟨h3.1, List.pairwise_cons.mpr ⟨fun x hx => Or.inl (h4 x hx), h3.2.1⟩, fun a ha b hb => ?_⟩
      rcases List.mem_cons.mp hb with g | g
      · rw [g]; exact h5 a ha
      · exact h3.2.2 a ha b g
    · intro x
      rw [List.mem_append, List.mem_cons, List.mem_append]
      constructor
      · rintro (g | g | g)
        · exact Or.inr (Or.inl g)
        · exact Or.inl g
        · exact Or.inr (Or.inr g)
      · rintro (g | g | g)
        · exact Or.inr (Or.inl g)
        · exact Or.inl g
        · exact Or.inr (Or.inr g)
    · rw [List.length_append, List.length_append, List.length_cons]; omega
  induction m with
  | zero =>
    intro fu τ pre suf hm hf hl hb h1 h2 h3 h4 _
    obtain ⟨f, rfl, -⟩ := fuel hf
    have hp : pre = [] := List.length_eq_zero_iff.mp hm
    obtain ⟨f', bl', g1, g2⟩ := stop 0 f τ pre suf hm hl h1 h2 h3 h4 (by rw [hp]; intro x hx; exact absurd hx (by simp))
    refine ⟨f', bl', fun z hz => ?_, g2⟩
    rw [Bk_putByDay_L16_r, if_pos (by decide)]
    exact g1 z hz
  | succ m ih =>
    intro fu τ pre suf hm hf hl hb h1 h2 h3 h4 _
    obtain ⟨f, rfl, hf2⟩ := fuel hf
    obtain ⟨a, x, hx, ha⟩ := snoc_of pre hm
    have x1 : τ.2.1 114 m = nI x := by
      rw [h1 m (by omega)]
      congr 1
      subst hx ha
      simp
    have x2 : x < ne := hb x (by rw [hx]; simp)
    have m1 : nI (m + 1) - 1 = nI m := by rw [← nI_1, Int32.add_sub_cancel]
    have m2 : nI (m + 1) + -1 = nI m := by rw [← m1]; exact (Int32.sub_eq_add_neg _ _).symm
    have unf : Bk_putByDay_L16_r (f + 1) τ (nI ne) (nI (m + 1)) = if τ.2.1 110 x ≤ τ.2.1 110 ne then Bk_putByDay_J62 τ (nI ne) (nI (m + 1)) else Bk_putByDay_L16_r f (xA τ 114 (upd (τ.2.1 114) (m + 1) (nI x))) (nI ne) (nI m) := by
      rw [Bk_putByDay_L16_r, if_neg (by rw [show (0 : Int32) = nI 0 from rfl, nI_leI (by omega) (by omega)]; omega), m1, m2]
      simp only [rd_nI (show m < 200 by omega) (show 200 < 2 ^ 31 by decide), x1, rd_nI (show x < 200 by omega) (show 200 < 2 ^ 31 by decide), rd_nI (show ne < 200 by omega) (show 200 < 2 ^ 31 by decide), wr_nI (show m + 1 < 200 by omega) (show 200 < 2 ^ 31 by decide), cl_nI (show m + 1 < 2 ^ 31 by omega)]
    by_cases c : τ.2.1 110 x ≤ τ.2.1 110 ne
    · obtain ⟨f', bl', g1, g2⟩ := stop (m + 1) f τ pre suf hm hl h1 h2 h3 h4 (by
        have lx : ltD (τ.2.1 110) x ne := by
          unfold ltD
          rw [i32_lt, i32_eq]
          rw [i32_le] at c
          omega
        intro y hy
        rw [hx] at hy
        rcases List.mem_append.mp hy with g | g
        · have hyx : ltD (τ.2.1 110) y x := by
            rw [hx, List.append_assoc, List.pairwise_append] at h3
            exact h3.2.2 y g x (by simp)
          unfold ltD at hyx lx ⊢
          rw [i32_lt, i32_eq] at hyx lx ⊢
          omega
        · rw [List.mem_singleton.mp g]; exact lx)
      refine ⟨f', bl', fun z hz => ?_, g2⟩
      rw [unf, if_pos c]
      exact g1 z hz
    · have r110 : (xA τ 114 (upd (τ.2.1 114) (m + 1) (nI x))).2.1 110 = τ.2.1 110 := xA_ne (by decide)
      obtain ⟨f', bl', g1, g2, g3, g4, g5, g6⟩ := ih f (xA τ 114 (upd (τ.2.1 114) (m + 1) (nI x))) a (x :: suf) ha (by omega) (by rw [List.length_cons]; omega) (fun y hy => hb y (by rw [hx]; simp [hy])) (fun k hk => by
          rw [xA_get, pk_un (by omega), h1 k (by omega)]
          congr 1
          subst hx
          rw [List.getElem_append_left hk]) (fun k hk => by
          rw [xA_get]
          cases k with
          | zero => rw [ha, Nat.add_zero, pk_us]; rfl
          | succ k =>
            rw [List.length_cons] at hk
            rw [pk_un (by omega)]
            have := h2 k (by omega)
            rw [hm] at this
            rw [ha, show m + 1 + (k + 1) = m + 1 + 1 + k by omega, this]
            rfl) (by rw [r110]; rw [hx, List.append_assoc] at h3; exact h3) (by
          rw [r110]
          intro y hy
          rcases List.mem_cons.mp hy with g | g
          · rw [g, i32_lt]; rw [i32_le] at c; omega
          · exact h4 y g) (Or.inr trivial)
      rw [r110] at g4
      refine ⟨f', bl', fun z hz => ?_, ?_, g3, g4, fun y => ?_, ?_⟩
      · rw [unf, if_neg c, g1 z hz, xA_same]
      · rw [g2, List.length_cons]; omega
      · rw [g5, hx]; simp
      · rw [hx]; simp at g6 ⊢; omega
theorem Bk_putByDay_spec {τ : XS} {ne : Nat} {bl : List Nat} (hne : ne < 200) (hl : bl.length < 200) (h5 : τ.1 115 = nI bl.length) (hb : ∀ x, x ∈ bl → x < ne) (h4 : ∀ (k : Nat) (h : k < bl.length), τ.2.1 114 k = nI bl[k]) (hs : bl.Pairwise (ltD (τ.2.1 110))) (hn : bl.Nodup) : ∃ (f : Nat → Int32) (bl' : List Nat), Bk_putByDay τ (nI ne) = some ((), xI (xA τ 114 f) 115 (nI bl'.length)) ∧ bl'.length = bl.length + 1 ∧ (∀ (k : Nat) (h : k < bl'.length), f k = nI bl'[k]) ∧ bl'.Nodup ∧ bl'.Pairwise (ltD (τ.2.1 110)) ∧ (∀ x, x ∈ bl' ↔ x = ne ∨ x ∈ bl) := by
  obtain ⟨f, bl', g1, g2, g3, g4, g5, -⟩ := Bk_putByDay_loop ne hne bl.length 100000 τ bl [] rfl (by omega) (by simpa using hl) hb h4 (fun k h => absurd h (Nat.not_lt_zero _)) (by rw [List.append_nil]; exact hs) (fun x hx => absurd hx (by simp)) (Or.inr trivial)
  rw [List.length_nil, Nat.add_zero] at g2
  refine ⟨f, bl', ?_, g2, g3, ?_, g4, fun x => by rw [g5, List.append_nil]⟩
  · unfold Bk_putByDay Bk_putByDay_L16
    rw [h5, if_pos (by rw [show (200 : Int32) = nI 200 from rfl, nI_ltI (by omega) (by omega)]; omega), g1 _ h5, g2]
  · refine g4.imp fun {a b} h => ?_
    rintro rfl
    unfold ltD at h
    rw [i32_lt] at h
    omega
