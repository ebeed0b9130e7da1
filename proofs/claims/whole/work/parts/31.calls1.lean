/-! the easy calls, laid by 31.py -/
theorem nI_mul8 {n : Nat} : (8 : Int32) * nI n = nI (8 * n) := by unfold nI; rw [show (8 : Int32) = Int32.ofNat 8 from rfl, ← Int32.ofNat_mul]

section EASY
variable {A : MS → XS → Prop}
theorem st26 (hA : Stb A) : St26 (InvA A) := by
  intro σ τ xs i h
  obtain ⟨np, ne, bl, hP, hB, ⟨m1, m2, m3, m4, m5, m6, m7, m8, m9, m10, m11, m12, m13, m14, m15, m16, m17, m18, m19⟩, ha⟩ := h
  generalize xs (i + 1) = p0
  unfold W_begin M_begin
  rw [M_in_eq, bind_so, b01_if, in_if1, m4.2]
  by_cases c : 0 ≤ p0 ∧ p0 ≤ 99999
  · rw [if_pos c, if_pos c]
    exact ⟨_, _, _, rfl, rfl, ⟨np, ne, bl, hP, hB, ⟨m1, m2, m3, ⟨⟨i32_le.mp c.1, i32_le.mp c.2⟩, rfl⟩, m5, m6, m7, m8, m9, m10, m11, m12, m13, m14, m15, m16, m17, m18, m19⟩, hA σ _ τ _ ha rfl rfl rfl rfl rfl rfl rfl rfl rfl rfl rfl rfl rfl⟩⟩
  · rw [if_neg c, if_neg c]
    exact ⟨_, _, _, rfl, rfl, ⟨np, ne, bl, hP, hB, ⟨m1, m2, m3, m4, m5, m6, m7, m8, m9, m10, m11, m12, m13, m14, m15, m16, m17, m18, m19⟩, ha⟩⟩
theorem st35 (hA : Stb A) : St35 (InvA A) := by
  intro σ τ xs i h
  obtain ⟨np, ne, bl, hP, hB, ⟨m1, m2, m3, m4, m5, m6, m7, m8, m9, m10, m11, m12, m13, m14, m15, m16, m17, m18, m19⟩, ha⟩ := h
  generalize xs (i + 1) = p0
  unfold W_interest M_interest
  rw [M_in_eq, bind_so, b01_if, in_if1, m7.2]
  by_cases c : 0 ≤ p0 ∧ p0 ≤ 20
  · rw [if_pos c, if_pos c]
    exact ⟨_, _, _, rfl, rfl, ⟨np, ne, bl, hP, hB, ⟨m1, m2, m3, m4, m5, m6, ⟨⟨i32_le.mp c.1, i32_le.mp c.2⟩, rfl⟩, m8, m9, m10, m11, m12, m13, m14, m15, m16, m17, m18, m19⟩, hA σ _ τ _ ha rfl rfl rfl rfl rfl rfl rfl rfl rfl rfl rfl rfl rfl⟩⟩
  · rw [if_neg c, if_neg c]
    exact ⟨_, _, _, rfl, rfl, ⟨np, ne, bl, hP, hB, ⟨m1, m2, m3, m4, m5, m6, m7, m8, m9, m10, m11, m12, m13, m14, m15, m16, m17, m18, m19⟩, ha⟩⟩
theorem st0 (hA : Stb A) : St0 (InvA A) := by
  intro σ τ xs i h
  obtain ⟨np, ne, bl, hP, hB, ⟨m1, m2, m3, m4, m5, m6, m7, m8, m9, m10, m11, m12, m13, m14, m15, m16, m17, m18, m19⟩, ha⟩ := h
  generalize xs (i + 1) = p0
  have hB0 := hB
  obtain ⟨b1, b2, b3, b4, b5, b6, b7, b8, b9, b10, b11, b12, b13, b14, b15, b16, ⟨cj, cj1, cj2, cj3, cj4⟩, b18, b19⟩ := hB
  unfold W_seat M_seat
  rw [M_in_eq, bind_so, b01_if, in_if1, b19, cj2, cj3]
  by_cases c : 0 ≤ p0 ∧ p0 ≤ 10
  case neg =>
    rw [if_neg c, if_neg c]
    exact ⟨_, _, _, rfl, rfl, ⟨np, ne, bl, hP, hB0, ⟨m1, m2, m3, m4, m5, m6, m7, m8, m9, m10, m11, m12, m13, m14, m15, m16, m17, m18, m19⟩, ha⟩⟩
  rw [if_pos c, if_pos c]
  by_cases c2 : cj = 0
  · rw [if_pos c2, if_pos rfl, if_pos (by rw [c2]; decide)]
    refine ⟨_, _, _, rfl, rfl, ⟨np, ne, bl, hP, ?_, ⟨m1, m2, m3, m4, m5, m6, m7, m8, m9, m10, m11, m12, m13, m14, m15, m16, m17, m18, m19⟩, hA σ _ τ _ ha rfl rfl rfl rfl rfl rfl rfl rfl rfl rfl rfl rfl rfl⟩⟩
    refine ⟨b1, b2, b3, b4, b5, b6, b7, b8, ?_, b10, b11, b12, b13, b14, b15, b16, ⟨cj, cj1, cj2, cj3, cj4⟩, ⟨i32_le.mp c.1, i32_le.mp c.2⟩, rfl⟩
    intro e he
    rcases b9 e he with g | ⟨g1, g2, p, g3, g4, g5, g6, g7, g8, g9⟩
    · exact Or.inl g
    · exact Or.inr ⟨g1, g2, p, g3, g4, g5, g6, g7, fun g => absurd g (cj4 c2 e he), g9⟩
  · rw [if_neg c2, if_neg (by decide), if_neg (by rw [show (0 : Int32) = nI 0 from rfl, nI_leI (by omega) (by omega)]; omega)]
    exact ⟨_, _, _, rfl, rfl, ⟨np, ne, bl, hP, hB0, ⟨m1, m2, m3, m4, m5, m6, m7, m8, m9, m10, m11, m12, m13, m14, m15, m16, m17, m18, m19⟩, ha⟩⟩
theorem st38 (hA : Stb A) : St38 (InvA A) := by
  intro σ τ xs i h
  obtain ⟨np, ne, bl, hP, hB, ⟨m1, m2, m3, m4, m5, m6, m7, m8, m9, m10, m11, m12, m13, m14, m15, m16, m17, m18, m19⟩, ha⟩ := h
  obtain ⟨nr, r1, r2, r3⟩ := m8
  unfold W_row M_row
  rw [r2, r3, xI_get, sI_get, nI_1]
  by_cases c : nr = 4
  · rw [if_neg (by rw [c]; decide), if_pos (by rw [c]; rfl)]
    exact ⟨_, _, _, rfl, rfl, ⟨np, ne, bl, hP, hB, ⟨m1, m2, m3, m4, m5, m6, m7, ⟨nr, r1, r2, r3⟩, m9, m10, m11, m12, m13, m14, m15, m16, m17, m18, m19⟩, ha⟩⟩
  · rw [if_pos (by rw [show (4 : Int32) = nI 4 from rfl, nI_ltI (by omega) (by omega)]; omega), if_neg (by rw [show (4 : Int32) = nI 4 from rfl, nI_eq (by omega) (by omega)]; exact c)]
    exact ⟨_, _, _, rfl, rfl, ⟨np, ne, bl, hP, hB, ⟨m1, m2, m3, m4, m5, m6, m7, ⟨nr + 1, by omega, rfl, rfl⟩, m9, m10, m11, m12, m13, m14, m15, m16, m17, m18, m19⟩, hA σ _ τ _ ha rfl rfl rfl rfl rfl rfl rfl rfl rfl rfl rfl rfl rfl⟩⟩
theorem st2 (hA : Stb A) : St2 (InvA A) := by
  intro σ τ xs i h
  obtain ⟨np, ne, bl, hP, hB, ⟨m1, m2, m3, m4, m5, m6, m7, m8, m9, m10, m11, m12, m13, m14, m15, m16, m17, m18, m19⟩, ha⟩ := h
  generalize xs (i + 1) = p0
  generalize xs (i + 2) = p1
  unfold W_birth M_birth
  rw [M_isPerson_eq hP.1 hP.2.1, Bk_isPerson_eq hP.2.2.1, bind_so, bind_so, b01_if, b01_if]
  have hP1 := hP.1
  by_cases c : 0 ≤ p0 ∧ p0 < nI np
  case neg =>
    rw [if_neg c, if_neg c]
    exact ⟨_, rfl, rfl, ⟨np, ne, bl, hP, hB, ⟨m1, m2, m3, m4, m5, m6, m7, m8, m9, m10, m11, m12, m13, m14, m15, m16, m17, m18, m19⟩, ha⟩⟩
  rw [if_pos c, if_pos c]
  obtain ⟨p, hp, rfl⟩ := inN c (by omega)
  simp only [rd_nI (show p < 24 by omega) (show 24 < 2 ^ 31 by decide), hP.2.2.2.1, hP.2.2.2.2.1, hP.2.2.2.2.2.1, hP.2.2.2.2.2.2.1]
  split
  · exact ⟨_, rfl, rfl, ⟨np, ne, bl, hP, hB, ⟨m1, m2, m3, m4, m5, m6, m7, m8, m9, m10, m11, m12, m13, m14, m15, m16, m17, m18, m19⟩, ha⟩⟩
  split
  · exact ⟨_, rfl, rfl, ⟨np, ne, bl, hP, hB, ⟨m1, m2, m3, m4, m5, m6, m7, m8, m9, m10, m11, m12, m13, m14, m15, m16, m17, m18, m19⟩, ha⟩⟩
  split
  · exact ⟨_, rfl, rfl, ⟨np, ne, bl, hP, hB, ⟨m1, m2, m3, m4, m5, m6, m7, m8, m9, m10, m11, m12, m13, m14, m15, m16, m17, m18, m19⟩, ha⟩⟩
  split
  · exact ⟨_, rfl, rfl, ⟨np, ne, bl, hP, hB, ⟨m1, m2, m3, m4, m5, m6, m7, m8, m9, m10, m11, m12, m13, m14, m15, m16, m17, m18, m19⟩, ha⟩⟩
  exact ⟨_, rfl, rfl, ⟨np, ne, bl, hP, hB, ⟨m1, m2, m3, m4, m5, m6, m7, m8, m9, m10, m11, m12, m13, m14, m15, m16, m17, m18, m19⟩, ha⟩⟩
theorem st10 (hA : Stb A) : St10 (InvA A) := by
  intro σ τ xs i h
  obtain ⟨np, ne, bl, hP, hB, ⟨m1, m2, m3, m4, m5, m6, m7, m8, m9, m10, m11, m12, m13, m14, m15, m16, m17, m18, m19⟩, ha⟩ := h
  generalize xs (i + 1) = p0
  generalize xs (i + 2) = p1
  have hB0 := hB
  obtain ⟨b1, b2, b3, b4, b5, b6, b7, b8, -⟩ := hB
  unfold W_known M_known
  rw [b2, M_in_N (by omega), Bk_isEntry_eq b3, bind_so, bind_so, b01_if, b01_if]
  by_cases c : 0 ≤ p0 ∧ p0 < nI ne
  case neg =>
    rw [if_neg c, if_neg c]
    exact ⟨_, rfl, rfl, ⟨np, ne, bl, hP, hB0, ⟨m1, m2, m3, m4, m5, m6, m7, m8, m9, m10, m11, m12, m13, m14, m15, m16, m17, m18, m19⟩, ha⟩⟩
  rw [if_pos c, if_pos c]
  obtain ⟨p, hp, rfl⟩ := inN c (by omega)
  simp only [rd_nI (show p < 200 by omega) (show 200 < 2 ^ 31 by decide), b4, b5, b6, b7, b8]
  split
  · exact ⟨_, rfl, rfl, ⟨np, ne, bl, hP, hB0, ⟨m1, m2, m3, m4, m5, m6, m7, m8, m9, m10, m11, m12, m13, m14, m15, m16, m17, m18, m19⟩, ha⟩⟩
  split
  · exact ⟨_, rfl, rfl, ⟨np, ne, bl, hP, hB0, ⟨m1, m2, m3, m4, m5, m6, m7, m8, m9, m10, m11, m12, m13, m14, m15, m16, m17, m18, m19⟩, ha⟩⟩
  split
  · exact ⟨_, rfl, rfl, ⟨np, ne, bl, hP, hB0, ⟨m1, m2, m3, m4, m5, m6, m7, m8, m9, m10, m11, m12, m13, m14, m15, m16, m17, m18, m19⟩, ha⟩⟩
  split
  · exact ⟨_, rfl, rfl, ⟨np, ne, bl, hP, hB0, ⟨m1, m2, m3, m4, m5, m6, m7, m8, m9, m10, m11, m12, m13, m14, m15, m16, m17, m18, m19⟩, ha⟩⟩
  split
  · exact ⟨_, rfl, rfl, ⟨np, ne, bl, hP, hB0, ⟨m1, m2, m3, m4, m5, m6, m7, m8, m9, m10, m11, m12, m13, m14, m15, m16, m17, m18, m19⟩, ha⟩⟩
  exact ⟨_, rfl, rfl, ⟨np, ne, bl, hP, hB0, ⟨m1, m2, m3, m4, m5, m6, m7, m8, m9, m10, m11, m12, m13, m14, m15, m16, m17, m18, m19⟩, ha⟩⟩
theorem st31 (hA : Stb A) : St31 (InvA A) := by
  intro σ τ xs i h
  obtain ⟨np, ne, bl, hP, hB, ⟨m1, m2, m3, m4, m5, m6, m7, m8, m9, m10, m11, m12, m13, m14, m15, m16, m17, m18, m19⟩, ha⟩ := h
  generalize xs (i + 1) = p0
  generalize xs (i + 2) = p1
  obtain ⟨t1, t2, t3⟩ := m6
  unfold W_table M_table
  rw [M_in_eq, M_in_eq, bind_so, b01_if, in_if4, in_if1, bind_so, b01_if]
  by_cases c : 0 ≤ p0 ∧ p0 ≤ 98
  case neg =>
    rw [if_neg c, if_neg (fun g => c ⟨g.1, by have := g.2; rw [i32_lt] at this; rw [i32_le]; exact Int.le_of_lt_add_one this⟩)]
    exact ⟨_, _, _, rfl, rfl, ⟨np, ne, bl, hP, hB, ⟨m1, m2, m3, m4, m5, ⟨t1, t2, t3⟩, m7, m8, m9, m10, m11, m12, m13, m14, m15, m16, m17, m18, m19⟩, ha⟩⟩
  have c' : 0 ≤ p0 ∧ p0 < 99 := ⟨c.1, by have := c.2; rw [i32_le] at this; rw [i32_lt]; exact Int.lt_add_one_of_le this⟩
  rw [if_pos c, if_pos c']
  by_cases c2 : 0 ≤ p1 ∧ p1 ≤ 1000
  case neg =>
    rw [if_neg c2, if_neg c2]
    exact ⟨_, _, _, rfl, rfl, ⟨np, ne, bl, hP, hB, ⟨m1, m2, m3, m4, m5, ⟨t1, t2, t3⟩, m7, m8, m9, m10, m11, m12, m13, m14, m15, m16, m17, m18, m19⟩, ha⟩⟩
  rw [if_pos c2, if_pos c2]
  obtain ⟨a, ha1, rfl⟩ := inN (n := 99) c' (by omega)
  rw [rd_nI (show a < 100 by omega) (by decide), rd_nI (show a < 100 by omega) (by decide), wr_nI (show a < 100 by omega) (by decide), wr_nI (show a < 100 by omega) (by decide), cl_nI (by omega), t1]
  refine ⟨_, _, _, rfl, rfl, ⟨np, ne, bl, hP, hB, ⟨m1, m2, m3, m4, m5, ⟨rfl, fun b hb => by
    show InR (upd (σ.2.1 33) a p1 b) 0 1000
    by_cases e : b = a
    · rw [e, pk_us]; exact ⟨i32_le.mp c2.1, i32_le.mp c2.2⟩
    · rw [pk_un e]; exact t2 b hb, by show upd (σ.2.1 33) a p1 99 = 1000; rw [pk_un (by omega)]; exact t3⟩, m7, m8, m9, m10, m11, m12, m13, m14, m15, m16, m17, m18, m19⟩, hA σ _ τ _ ha rfl rfl rfl rfl rfl rfl rfl rfl rfl rfl rfl rfl rfl⟩⟩
theorem st41 (hA : Stb A) : St41 (InvA A) := by
  intro σ τ xs i h
  obtain ⟨np, ne, bl, hP, hB, ⟨m1, m2, m3, m4, m5, m6, m7, m8, m9, m10, m11, m12, m13, m14, m15, m16, m17, m18, m19⟩, ha⟩ := h
  generalize xs (i + 1) = p0
  generalize xs (i + 2) = p1
  obtain ⟨ns, n1, n2, n3, n4⟩ := m13
  have key : (p0 = 0 ∨ p0 = 1 ∨ p0 = 3) → ∃ r : Int32, ∃ σ1 : MS, ∃ τ1 : XS, W_step_J16 τ p0 p1 = some (r, τ1) ∧ M_step_J16 σ p0 p1 = some (r, σ1) ∧ InvA A σ1 τ1 := by
    intro hp
    unfold W_step_J16 M_step_J16
    rw [M_in_eq, bind_so, b01_if, in_if1]
    by_cases c : 0 ≤ p1 ∧ p1 ≤ 300
    case neg =>
      rw [if_neg c, if_neg c]
      exact ⟨_, _, _, rfl, rfl, ⟨np, ne, bl, hP, hB, ⟨m1, m2, m3, m4, m5, m6, m7, m8, m9, m10, m11, m12, ⟨ns, n1, n2, n3, n4⟩, m14, m15, m16, m17, m18, m19⟩, ha⟩⟩
    rw [if_pos c, if_pos c, n2, n3]
    by_cases c4 : ns = 4
    · rw [if_neg (by rw [c4]; decide), if_pos (by rw [c4]; rfl)]
      exact ⟨_, _, _, rfl, rfl, ⟨np, ne, bl, hP, hB, ⟨m1, m2, m3, m4, m5, m6, m7, m8, m9, m10, m11, m12, ⟨ns, n1, n2, n3, n4⟩, m14, m15, m16, m17, m18, m19⟩, ha⟩⟩
    rw [if_pos (by rw [show (4 : Int32) = nI 4 from rfl, nI_ltI (by omega) (by omega)]; omega), if_neg (by rw [show (4 : Int32) = nI 4 from rfl, nI_eq (by omega) (by omega)]; exact c4)]
    unfold Tr_addStep
    simp only [sA_1, xA_1, n2, n3, wr_nI (show ns < 4 by omega) (show 4 < 2 ^ 31 by decide), cl_nI (show ns < 2 ^ 31 by omega), sI_get, nI_1, bind_pq, Option.some.injEq, Prod.mk.injEq]
    refine ⟨_, _, _, ⟨rfl, rfl⟩, ⟨?_, rfl⟩, ⟨np, ne, bl, hP, hB, ⟨m1, m2, m3, m4, m5, m6, m7, m8, m9, m10, m11, m12, ⟨ns + 1, by omega, rfl, rfl, fun k hk => by
      show (upd (σ.2.1 40) ns p0 k = 0 ∨ upd (σ.2.1 40) ns p0 k = 1 ∨ upd (σ.2.1 40) ns p0 k = 3) ∧ InR (upd (σ.2.1 41) ns p1 k) 0 300
      by_cases e : k = ns
      · rw [e, pk_us, pk_us]; exact ⟨hp, i32_le.mp c.1, i32_le.mp c.2⟩
      · rw [pk_un e, pk_un e]; exact n4 k (by omega)⟩, (by show upd (τ.2.1 906) ns p0 = upd (σ.2.1 40) ns p0; rw [m14]), (by show upd (τ.2.1 907) ns p1 = upd (σ.2.1 41) ns p1; rw [m15]), m16, m17, m18, m19⟩, hA σ _ τ _ ha rfl rfl rfl rfl rfl rfl rfl rfl rfl rfl rfl rfl rfl⟩⟩
    · rw [← nI_1]; exact Int32.add_sub_cancel _ _
  unfold W_step M_step
  by_cases c0 : p0 = 0
  · rw [if_pos c0, if_pos c0]; exact key (Or.inl c0)
  rw [if_neg c0, if_neg c0]
  by_cases c1 : p0 = 1
  · rw [if_pos c1, if_pos c1]; exact key (Or.inr (Or.inl c1))
  rw [if_neg c1, if_neg c1]
  by_cases c3 : p0 = 3
  · rw [if_pos c3, if_pos c3]; exact key (Or.inr (Or.inr c3))
  rw [if_neg c3, if_neg c3]
  exact ⟨_, _, _, rfl, rfl, ⟨np, ne, bl, hP, hB, ⟨m1, m2, m3, m4, m5, m6, m7, m8, m9, m10, m11, m12, ⟨ns, n1, n2, n3, n4⟩, m14, m15, m16, m17, m18, m19⟩, ha⟩⟩
theorem st29 (hA : Stb A) : St29 (InvA A) := by
  intro σ τ xs i h
  obtain ⟨np, ne, bl, hP, hB, ⟨m1, m2, m3, m4, m5, m6, m7, m8, m9, m10, m11, m12, m13, m14, m15, m16, m17, m18, m19⟩, ha⟩ := h
  generalize xs (i + 1) = p0
  generalize xs (i + 2) = p1
  obtain ⟨nl, l1, l2, l3, l4, l5, l6, l7, l8⟩ := m5
  unfold W_bad M_bad
  rw [l2, l3, M_in_N (by omega), in_if4, bind_so, b01_if, M_isYear_eq, W_isYear_eq, bind_so, bind_so, b01_if, b01_if]
  by_cases c : 0 ≤ p0 ∧ p0 < nI nl
  case neg =>
    rw [if_neg c, if_neg c]
    exact ⟨_, _, _, rfl, rfl, ⟨np, ne, bl, hP, hB, ⟨m1, m2, m3, m4, ⟨nl, l1, l2, l3, l4, l5, l6, l7, l8⟩, m6, m7, m8, m9, m10, m11, m12, m13, m14, m15, m16, m17, m18, m19⟩, ha⟩⟩
  rw [if_pos c, if_pos c]
  by_cases c2 : 0 ≤ p1 ∧ p1 ≤ 99
  case neg =>
    rw [if_neg c2, if_neg c2]
    exact ⟨_, _, _, rfl, rfl, ⟨np, ne, bl, hP, hB, ⟨m1, m2, m3, m4, ⟨nl, l1, l2, l3, l4, l5, l6, l7, l8⟩, m6, m7, m8, m9, m10, m11, m12, m13, m14, m15, m16, m17, m18, m19⟩, ha⟩⟩
  rw [if_pos c2, if_pos c2]
  obtain ⟨l, hl, rfl⟩ := inN c (by omega)
  have y1 : 0 ≤ p1.toInt := i32_le.mp c2.1
  have y2 : p1.toInt ≤ 99 := i32_le.mp c2.2
  have fin : ∀ (v v' : Int32), ((v = 10000 ∧ v' = 100) ∨ (InR v 0 99 ∧ v' = v)) → InvA A (sA σ 32 (upd (σ.2.1 32) l v)) (xA τ 505 (upd (τ.2.1 505) l v')) := fun v v' hv => ⟨np, ne, bl, hP, hB, ⟨m1, m2, m3, m4, ⟨nl, l1, l2, l3, l4, l5, l6, l7, fun k hk => ⟨(l8 k hk).1, (l8 k hk).2.1, (l8 k hk).2.2.1, (l8 k hk).2.2.2.1, by
    show (upd (σ.2.1 32) l v k = 10000 ∧ upd (τ.2.1 505) l v' k = 100) ∨ (InR (upd (σ.2.1 32) l v k) 0 99 ∧ upd (τ.2.1 505) l v' k = upd (σ.2.1 32) l v k)
    by_cases e : k = l
    · rw [e, pk_us, pk_us]; exact hv
    · rw [pk_un e, pk_un e]; exact (l8 k hk).2.2.2.2⟩⟩, m6, m7, m8, m9, m10, m11, m12, m13, m14, m15, m16, m17, m18, m19⟩, hA σ _ τ _ ha rfl rfl rfl rfl rfl rfl rfl rfl rfl rfl rfl rfl rfl⟩
  have hN := l8 l hl
  simp only [rd_nI (show l < 12 by omega) (show 12 < 2 ^ 31 by decide), W_bad_J46, M_bad_J48, wr_nI (show l < 12 by omega) (show 12 < 2 ^ 31 by decide), cl_nI (show l < 2 ^ 31 by omega), mnI, ↓reduceIte]
  rcases hN.2.2.2.2 with ⟨g1, g2⟩ | ⟨g1, g2⟩
  · have z1 : p1 < 100 := by rw [i32_lt, show (100 : Int32).toInt = 100 from rfl]; omega
    have z2 : ¬ 10000 ≤ p1 := by rw [i32_le, show (10000 : Int32).toInt = 10000 from rfl]; omega
    rw [g1, g2, if_pos rfl, if_pos z1, if_neg z2, if_pos rfl]
    exact ⟨_, _, _, rfl, rfl, fin _ _ (Or.inr ⟨⟨y1, y2⟩, rfl⟩)⟩
  · have g3 : σ.2.1 32 l ≠ 10000 := fun e => by have := g1.2; rw [e, show (10000 : Int32).toInt = 10000 from rfl] at this; omega
    have g4 : σ.2.1 32 l ≠ 100 := fun e => by have := g1.2; rw [e, show (100 : Int32).toInt = 100 from rfl] at this; omega
    rw [g2, if_neg g4, if_neg g3, if_neg g3]
    by_cases c3 : σ.2.1 32 l ≤ p1
    · rw [if_pos c3, if_neg (by rw [i32_lt]; rw [i32_le] at c3; omega)]
      exact ⟨_, _, _, rfl, rfl, fin _ _ (Or.inr ⟨g1, rfl⟩)⟩
    · rw [if_neg c3, if_pos (by rw [i32_lt]; rw [i32_le] at c3; omega)]
      exact ⟨_, _, _, rfl, rfl, fin _ _ (Or.inr ⟨⟨y1, y2⟩, rfl⟩)⟩
theorem st28 (hA : Stb A) : St28 (InvA A) := by
  intro σ τ xs i h
  obtain ⟨np, ne, bl, hP, hB, ⟨m1, m2, m3, m4, m5, m6, m7, m8, m9, m10, m11, m12, m13, m14, m15, m16, m17, m18, m19⟩, ha⟩ := h
  generalize xs (i + 1) = p0
  generalize xs (i + 2) = p1
  generalize xs (i + 3) = p2
  generalize xs (i + 4) = p3
  obtain ⟨nl, l1, l2, l3, l4, l5, l6, l7, l8⟩ := m5
  unfold W_loan M_loan
  rw [in_if2, in_if2, in_if1, M_in_eq, M_isYear_eq, W_isYear_eq, M_in_eq, M_in_eq]
  simp only [bind_so, b01_if]
  by_cases c : 1 ≤ p0 ∧ p0 ≤ 9999
  case neg =>
    rw [if_neg c, if_neg c]
    exact ⟨_, _, _, rfl, rfl, ⟨np, ne, bl, hP, hB, ⟨m1, m2, m3, m4, ⟨nl, l1, l2, l3, l4, l5, l6, l7, l8⟩, m6, m7, m8, m9, m10, m11, m12, m13, m14, m15, m16, m17, m18, m19⟩, ha⟩⟩
  rw [if_pos c, if_pos c]
  by_cases c2 : 0 ≤ p1 ∧ p1 ≤ 99
  case neg =>
    rw [if_neg c2, if_neg c2]
    exact ⟨_, _, _, rfl, rfl, ⟨np, ne, bl, hP, hB, ⟨m1, m2, m3, m4, ⟨nl, l1, l2, l3, l4, l5, l6, l7, l8⟩, m6, m7, m8, m9, m10, m11, m12, m13, m14, m15, m16, m17, m18, m19⟩, ha⟩⟩
  rw [if_pos c2, if_pos c2]
  by_cases c3 : 1 ≤ p2 ∧ p2 ≤ 30
  case neg =>
    rw [if_neg c3, if_neg c3]
    exact ⟨_, _, _, rfl, rfl, ⟨np, ne, bl, hP, hB, ⟨m1, m2, m3, m4, ⟨nl, l1, l2, l3, l4, l5, l6, l7, l8⟩, m6, m7, m8, m9, m10, m11, m12, m13, m14, m15, m16, m17, m18, m19⟩, ha⟩⟩
  rw [if_pos c3, if_pos c3]
  by_cases c4 : 0 ≤ p3 ∧ p3 ≤ 20
  case neg =>
    rw [if_neg c4, if_neg c4]
    exact ⟨_, _, _, rfl, rfl, ⟨np, ne, bl, hP, hB, ⟨m1, m2, m3, m4, ⟨nl, l1, l2, l3, l4, l5, l6, l7, l8⟩, m6, m7, m8, m9, m10, m11, m12, m13, m14, m15, m16, m17, m18, m19⟩, ha⟩⟩
  rw [if_pos c4, if_pos c4, l2, l3]
  by_cases c5 : nl = 12
  · rw [if_neg (by rw [c5]; decide), if_pos (by rw [c5]; rfl)]
    exact ⟨_, _, _, rfl, rfl, ⟨np, ne, bl, hP, hB, ⟨m1, m2, m3, m4, ⟨nl, l1, l2, l3, l4, l5, l6, l7, l8⟩, m6, m7, m8, m9, m10, m11, m12, m13, m14, m15, m16, m17, m18, m19⟩, ha⟩⟩
  have c6 : nI nl < 12 := by rw [show (12 : Int32) = nI 12 from rfl, nI_ltI (by omega) (by omega)]; omega
  rw [if_pos c6, if_neg (by rw [show (12 : Int32) = nI 12 from rfl, nI_eq (by omega) (by omega)]; exact c5)]
  unfold Ln_give
  simp only [sA_1, xA_1, l2, l3, wr_nI (show nl < 12 by omega) (show 12 < 2 ^ 31 by decide), cl_nI (show nl < 2 ^ 31 by omega), sI_get, nI_1, bind_pq, Option.some.injEq, Prod.mk.injEq, if_pos c6]
  refine ⟨_, _, _, ⟨rfl, rfl⟩, ⟨?_, rfl⟩, ⟨np, ne, bl, hP, hB, ⟨m1, m2, m3, m4, ⟨nl + 1, by omega, rfl, rfl, by show upd (τ.2.1 501) nl p0 = upd (σ.2.1 28) nl p0; rw [l4], by show upd (τ.2.1 502) nl p1 = upd (σ.2.1 29) nl p1; rw [l5], by show upd (τ.2.1 503) nl p2 = upd (σ.2.1 30) nl p2; rw [l6], by show upd (τ.2.1 504) nl p3 = upd (σ.2.1 31) nl p3; rw [l7], fun k hk => by
    show InR (upd (σ.2.1 28) nl p0 k) 1 9999 ∧ InR (upd (σ.2.1 29) nl p1 k) 0 99 ∧ InR (upd (σ.2.1 30) nl p2 k) 1 30 ∧ InR (upd (σ.2.1 31) nl p3 k) 0 20 ∧ ((upd (σ.2.1 32) nl 10000 k = 10000 ∧ upd (τ.2.1 505) nl 100 k = 100) ∨ (InR (upd (σ.2.1 32) nl 10000 k) 0 99 ∧ upd (τ.2.1 505) nl 100 k = upd (σ.2.1 32) nl 10000 k))
    by_cases e : k = nl
    · rw [e, pk_us, pk_us, pk_us, pk_us, pk_us, pk_us]
      exact ⟨⟨i32_le.mp c.1, i32_le.mp c.2⟩, ⟨i32_le.mp c2.1, i32_le.mp c2.2⟩, ⟨i32_le.mp c3.1, i32_le.mp c3.2⟩, ⟨i32_le.mp c4.1, i32_le.mp c4.2⟩, Or.inl ⟨rfl, rfl⟩⟩
    · rw [pk_un e, pk_un e, pk_un e, pk_un e, pk_un e, pk_un e]; exact l8 k (by omega)⟩, m6, m7, m8, m9, m10, m11, m12, m13, m14, m15, m16, m17, m18, m19⟩, hA σ _ τ _ ha rfl rfl rfl rfl rfl rfl rfl rfl rfl rfl rfl rfl rfl⟩⟩
  · first | rfl | (rw [← nI_1]; exact Int32.add_sub_cancel _ _)
theorem st39 (hA : Stb A) : St39 (InvA A) := by
  intro σ τ xs i h
  obtain ⟨np, ne, bl, hP, hB, ⟨m1, m2, m3, m4, m5, m6, m7, m8, m9, m10, m11, m12, m13, m14, m15, m16, m17, m18, m19⟩, ha⟩ := h
  generalize xs (i + 1) = p0
  generalize xs (i + 2) = p1
  generalize xs (i + 3) = p2
  have hP1 := hP.1
  obtain ⟨nr, r1, r2, r3⟩ := m8
  unfold W_rows M_rows
  rw [in_if3, r2, r3, M_in_N (by omega), M_isPerson_eq hP.1 hP.2.1, Bk_isPerson_eq hP.2.2.1, M_isYear_eq, W_isYear_eq]
  simp only [bind_so, b01_if]
  by_cases c : 0 ≤ p0 ∧ p0 < nI nr
  case neg =>
    rw [if_neg c, if_neg c]
    exact ⟨_, _, _, rfl, rfl, ⟨np, ne, bl, hP, hB, ⟨m1, m2, m3, m4, m5, m6, m7, ⟨nr, r1, r2, r3⟩, m9, m10, m11, m12, m13, m14, m15, m16, m17, m18, m19⟩, ha⟩⟩
  rw [if_pos c, if_pos c]
  by_cases c2 : 0 ≤ p1 ∧ p1 < nI np
  case neg =>
    rw [if_neg c2, if_neg c2]
    exact ⟨_, _, _, rfl, rfl, ⟨np, ne, bl, hP, hB, ⟨m1, m2, m3, m4, m5, m6, m7, ⟨nr, r1, r2, r3⟩, m9, m10, m11, m12, m13, m14, m15, m16, m17, m18, m19⟩, ha⟩⟩
  rw [if_pos c2, if_pos c2]
  by_cases c3 : 0 ≤ p2 ∧ p2 ≤ 99
  case neg =>
    rw [if_neg c3, if_neg c3]
    exact ⟨_, _, _, rfl, rfl, ⟨np, ne, bl, hP, hB, ⟨m1, m2, m3, m4, m5, m6, m7, ⟨nr, r1, r2, r3⟩, m9, m10, m11, m12, m13, m14, m15, m16, m17, m18, m19⟩, ha⟩⟩
  rw [if_pos c3, if_pos c3]
  obtain ⟨r, hr, rfl⟩ := inN c (by omega)
  obtain ⟨p, hp, rfl⟩ := inN c2 (by omega)
  obtain ⟨nd, d1, d2, d3⟩ := m12 r (by omega)
  rw [rd_nI (show r < 4 by omega) (by decide), rd_nI (show r < 4 by omega) (by decide), m9, d2]
  by_cases c4 : nd = 8
  · rw [if_neg (by rw [c4]; decide), if_pos (by rw [c4]; rfl)]
    exact ⟨_, _, _, rfl, rfl, ⟨np, ne, bl, hP, hB, ⟨m1, m2, m3, m4, m5, m6, m7, ⟨nr, r1, r2, r3⟩, m9, m10, m11, m12, m13, m14, m15, m16, m17, m18, m19⟩, ha⟩⟩
  have c6 : nI nd < 8 := by rw [show (8 : Int32) = nI 8 from rfl, nI_ltI (by omega) (by omega)]; omega
  rw [if_pos c6, if_neg (by rw [show (8 : Int32) = nI 8 from rfl, nI_eq (by omega) (by omega)]; exact c4)]
  unfold Tr_addDeath
  have e1 : (8 : Int32) * nI r + nI nd = nI (8 * r + nd) := by rw [nI_mul8, nI_add]
  have e2 : nI r * (8 : Int32) + nI nd = nI (8 * r + nd) := by rw [Int32.mul_comm, e1]
  simp only [rd_nI (show r < 4 by omega) (show 4 < 2 ^ 31 by decide), wr_nI (show r < 4 by omega) (show 4 < 2 ^ 31 by decide), sA_get, xA_get, xA_ne (show (902 : Nat) ≠ 903 by decide), xA_ne (show (902 : Nat) ≠ 904 by decide), xA_ne (show (904 : Nat) ≠ 903 by decide), sA_ne (show (36 : Nat) ≠ 37 by decide), sA_ne (show (36 : Nat) ≠ 38 by decide), sA_ne (show (38 : Nat) ≠ 37 by decide), m9, d2, e1, e2, wr_nI (show 8 * r + nd < 32 by omega) (show 32 < 2 ^ 31 by decide), cl_nI (show 8 * r + nd < 2 ^ 31 by omega), cl_nI (show r < 2 ^ 31 by omega), nI_1, pk_us, bind_pq, Option.some.injEq, Prod.mk.injEq]
  refine ⟨_, _, _, ⟨rfl, rfl⟩, ⟨rfl, rfl⟩, ⟨np, ne, bl, hP, hB, ⟨m1, m2, m3, m4, m5, m6, m7, ⟨nr, r1, r2, r3⟩, rfl, (by show upd (τ.2.1 903) (8 * r + nd) (nI p) = upd (σ.2.1 37) (8 * r + nd) (nI p); rw [m10]), (by show upd (τ.2.1 904) (8 * r + nd) p2 = upd (σ.2.1 38) (8 * r + nd) p2; rw [m11]), (fun r' hr' => by
    obtain ⟨nd', d1', d2', d3'⟩ := m12 r' hr'
    show ∃ n, n ≤ 8 ∧ upd (σ.2.1 36) r (nI (nd + 1)) r' = nI n ∧ ∀ k, k < n → (∃ q, q < np ∧ upd (σ.2.1 37) (8 * r + nd) (nI p) (8 * r' + k) = nI q) ∧ InR (upd (σ.2.1 38) (8 * r + nd) p2 (8 * r' + k)) 0 99
    by_cases e : r' = r
    · subst e
      refine ⟨nd + 1, by omega, pk_us, fun k hk => ?_⟩
      by_cases e' : k = nd
      · rw [e', pk_us, pk_us]; exact ⟨⟨p, hp, rfl⟩, i32_le.mp c3.1, i32_le.mp c3.2⟩
      · rw [pk_un (by omega), pk_un (by omega)]; exact d3 k (by omega)
    · refine ⟨nd', d1', by rw [pk_un e]; exact d2', fun k hk => ?_⟩
      rw [pk_un (by omega), pk_un (by omega)]; exact d3' k hk), m13, m14, m15, m16, m17, m18, m19⟩, hA σ _ τ _ ha rfl rfl rfl rfl rfl rfl rfl rfl rfl rfl rfl rfl rfl⟩⟩
end EASY
