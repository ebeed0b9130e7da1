/-! easy calls, laid by 32.py -/
theorem nI_mul {a b : Nat} : nI a * nI b = nI (a * b) := by unfold nI; rw [← Int32.ofNat_mul]
section EASY
variable {A : MS → XS → Prop}
theorem comes_eq {σ : MS} {τ : XS} {np : Nat} (h : MisI σ τ np) {nl : Nat} (hn : σ.1 27 = nI nl) {l : Nat} (hl : l < nl) (h12 : nl ≤ 12) {y : Int32} (hy : 0 ≤ y ∧ y ≤ 99) : ∃ v, M_comesOf σ (nI l) y = some v ∧ Ln_comesOf τ (nI l) y = some v := by
  obtain ⟨m1, m2, m3, m4, m5, m6, m7, m8, m9, m10, m11, m12, m13, m14, m15, m16, m17, m18, m19⟩ := h
  obtain ⟨nl', l1, l2, l3, l4, l5, l6, l7, l8⟩ := m5
  have : nl' = nl := (nI_eq (by omega) (by omega)).mp (l2.symm.trans hn)
  subst this
  have hv := (l8 l hl).2.2.2.2
  have hc := (l8 l hl).1
  have hr := (l8 l hl).2.2.2.1
  unfold M_comesOf Ln_comesOf M_comesOf_J84
  simp only [rd_nI (show l < 12 by omega) (show 12 < 2 ^ 31 by decide), l4, l5, l6, l7]
  split
  · exact ⟨_, rfl, rfl⟩
  split
  · exact ⟨_, rfl, rfl⟩
  split
  · exact ⟨_, rfl, rfl⟩
  have e : (y < τ.2.1 505 l) ↔ (y < σ.2.1 32 l) := by
    have y2 := i32_le.mp hy.2
    rw [show (99 : Int32).toInt = 99 from rfl] at y2
    rcases hv with ⟨g1, g2⟩ | ⟨g1, g2⟩
    · rw [g1, g2, i32_lt, i32_lt, show (100 : Int32).toInt = 100 from rfl, show (10000 : Int32).toInt = 10000 from rfl]
      omega
    · rw [g2]
  by_cases c : y < σ.2.1 32 l
  case neg =>
    rw [if_neg c, if_neg fun g => c (e.mp g)]
    exact ⟨_, rfl, rfl⟩
  rw [if_pos c, if_pos (e.mpr c)]
  obtain ⟨hc1, hc2⟩ := hc
  obtain ⟨hr1, hr2⟩ := hr
  have em : ((σ.2.1 28 l) * (σ.2.1 31 l)).toInt = (σ.2.1 28 l).toInt * (σ.2.1 31 l).toInt := by
    rw [Int32.toInt_mul]
    have b1 : 0 ≤ (σ.2.1 28 l).toInt * (σ.2.1 31 l).toInt := Int.mul_nonneg (by omega) hr1
    have b2 : (σ.2.1 28 l).toInt * (σ.2.1 31 l).toInt ≤ 9999 * 20 := Int.mul_le_mul hc2 hr2 hr1 (by decide)
    show Int.bmod _ 4294967296 = _
    exact Int.bmod_eq_of_le (by omega) (by omega)
  have ed : (((σ.2.1 28 l) * (σ.2.1 31 l)) / 100).toInt = (σ.2.1 28 l).toInt * (σ.2.1 31 l).toInt / 100 := by
    rw [Int32.toInt_div_of_ne_right _ _ (by decide), em, show (100 : Int32).toInt = 100 from rfl]
    exact Int.tdiv_eq_ediv_of_nonneg (Int.mul_nonneg (by omega) hr1)
  have b2 : (σ.2.1 28 l).toInt * (σ.2.1 31 l).toInt ≤ 9999 * 20 := Int.mul_le_mul hc2 hr2 hr1 (by decide)
  have b1 : 0 ≤ (σ.2.1 28 l).toInt * (σ.2.1 31 l).toInt := Int.mul_nonneg (by omega) hr1
  have add : ∀ (a b : Int32), 0 ≤ a.toInt → a.toInt ≤ 100000 → 0 ≤ b.toInt → b.toInt ≤ 100000 → (a + b).toInt64 = a.toInt64 + b.toInt64 := by
    intro a b h1 h2 h3 h4
    apply Int64.toInt_inj.mp
    rw [Int32.toInt_toInt64, Int64.toInt_add, Int32.toInt_toInt64, Int32.toInt_toInt64, Int32.toInt_add]
    rw [show (2 : Nat) ^ 32 = 4294967296 from rfl, show (2 : Nat) ^ 64 = 18446744073709551616 from rfl, Int.bmod_eq_of_le (by omega) (by omega), Int.bmod_eq_of_le (by omega) (by omega)]
  split
  · exact ⟨_, rfl, by rw [add _ _ (by omega) (by omega) (by omega) (by omega)]⟩
  · exact ⟨_, rfl, by rw [add _ _ (by omega) (by omega) (by decide) (by decide)]; congr 1; exact (Int64.add_zero _).symm⟩

theorem st30 (hA : Stb A) : St30 (InvA A) := by
  intro σ τ xs i h
  obtain ⟨np, ne, bl, hP, hB, ⟨m1, m2, m3, m4, m5, m6, m7, m8, m9, m10, m11, m12, m13, m14, m15, m16, m17, m18, m19⟩, ha⟩ := h
  have hM : MisI σ τ np := ⟨m1, m2, m3, m4, m5, m6, m7, m8, m9, m10, m11, m12, m13, m14, m15, m16, m17, m18, m19⟩
  obtain ⟨nl, l1, l2, l3, l4, l5, l6, l7, l8⟩ := m5
  generalize xs (i + 1) = p0
  generalize xs (i + 2) = p1
  unfold W_due M_due
  rw [in_if3, l2, l3, M_in_N (by omega), M_isYear_eq, W_isYear_eq]
  simp only [bind_so, b01_if]
  by_cases c : 0 ≤ p0 ∧ p0 < nI nl
  case neg =>
    rw [if_neg c, if_neg c]
    exact ⟨_, rfl, rfl, ⟨np, ne, bl, hP, hB, hM, ha⟩⟩
  rw [if_pos c, if_pos c]
  by_cases c3 : 0 ≤ p1 ∧ p1 ≤ 99
  case neg =>
    rw [if_neg c3, if_neg c3]
    exact ⟨_, rfl, rfl, ⟨np, ne, bl, hP, hB, hM, ha⟩⟩
  rw [if_pos c3, if_pos c3]
  obtain ⟨l, hl, rfl⟩ := inN c (by omega)
  obtain ⟨v, v1, v2⟩ := comes_eq hM l2 hl l1 c3
  rw [v1, v2]
  exact ⟨_, rfl, rfl, ⟨np, ne, bl, hP, hB, hM, ha⟩⟩
theorem st44 (hA : Stb A) : St44 (InvA A) := by
  intro σ τ xs i h
  obtain ⟨np, ne, bl, hP, hB, ⟨m1, m2, m3, m4, m5, m6, m7, m8, m9, m10, m11, m12, m13, m14, m15, m16, m17, m18, m19⟩, ha⟩ := h
  have hM : MisI σ τ np := ⟨m1, m2, m3, m4, m5, m6, m7, m8, m9, m10, m11, m12, m13, m14, m15, m16, m17, m18, m19⟩
  have hP1 := hP.1
  generalize xs (i + 1) = p0
  generalize xs (i + 2) = p1
  generalize ((((xs (i + 3))).toInt64 <<< ((32 : Int32).toInt64 &&& 63)) ||| (((xs (i + 4))).toInt64 &&& (4294967295))) = v
  have fin : ∀ k, k < 73 → ∃ r : Int64, ∃ σ1 : MS, ∃ τ1 : XS, Ty_exchange τ (nI k) v = some (r, τ1) ∧ M_told_J85 σ v (nI k) = some (r, σ1) ∧ InvA A σ1 τ1 := by
    intro k hk
    unfold Ty_exchange M_told_J85
    rw [in_if1, if_pos ⟨nI_le0 (by omega), by rw [show (72 : Int32) = nI 72 from rfl, nI_leI (by omega) (by omega)]; omega⟩, rd_nI hk (by decide), rd_nI hk (by decide), wr_nI hk (by decide), wr_nI hk (by decide), m16]
    exact ⟨_, _, _, rfl, rfl, ⟨np, ne, bl, hP, hB, ⟨m1, m2, m3, m4, m5, m6, m7, m8, m9, m10, m11, m12, m13, m14, m15, rfl, m17, m18, m19⟩, hA σ _ τ _ ha rfl rfl rfl rfl rfl rfl rfl rfl rfl rfl rfl rfl rfl⟩⟩
  have fin2 : ∀ k, k < 73 → ∀ s0 : Int32, s0 = nI k → ∃ r : Int64, ∃ σ1 : MS, ∃ τ1 : XS, W_told_J84 τ v s0 = some (r, τ1) ∧ M_told_J85 σ v s0 = some (r, σ1) ∧ InvA A σ1 τ1 := by
    rintro k hk _ rfl
    obtain ⟨r, σ1, τ1, q1, q2, q3⟩ := fin k hk
    refine ⟨r, σ1, τ1, ?_, q2, q3⟩
    unfold W_told_J84
    rw [q1, bind_pq]
  have same : InvA A σ τ := ⟨np, ne, bl, hP, hB, hM, ha⟩
  unfold W_told M_told W_told_J13
  by_cases c0 : p0 = -1
  · rw [if_pos c0, if_pos c0]
    by_cases c1 : p1 = 0
    · rw [if_pos c1, if_pos c1]
      unfold W_told_J14 M_told_J39
      rw [if_neg (by decide), if_neg (by decide)]
      unfold W_told_J45
      split
      · exact ⟨_, _, _, rfl, rfl, same⟩
      split
      · exact fin2 72 (by decide) _ rfl
      · exact ⟨_, _, _, rfl, rfl, same⟩
    · rw [if_neg c1, if_neg c1]
      unfold W_told_J14 M_told_J39
      rw [if_pos rfl, if_pos rfl, Bk_isPerson_eq hP.2.2.1, bind_so, b01_if, if_neg (by rw [c0]; intro g; exact absurd g.1 (by decide))]
      exact ⟨_, _, _, rfl, rfl, same⟩
  · rw [if_neg c0, if_neg c0, M_isPerson_eq hP.1 hP.2.1, bind_so, b01_if]
    unfold W_told_J14 M_told_J38
    rw [if_pos rfl, Bk_isPerson_eq hP.2.2.1, bind_so, b01_if, in_if1, M_in_eq, bind_so, b01_if]
    by_cases c : 0 ≤ p0 ∧ p0 < nI np
    case neg =>
      rw [if_neg c, if_neg c]
      exact ⟨_, _, _, rfl, rfl, same⟩
    rw [if_pos c, if_pos c]
    by_cases c2 : 0 ≤ p1 ∧ p1 ≤ 2
    case neg =>
      rw [if_neg c2, if_neg c2]
      exact ⟨_, _, _, rfl, rfl, same⟩
    rw [if_pos c2, if_pos c2]
    obtain ⟨p, hp, rfl⟩ := inN c (by omega)
    obtain ⟨q, hq, rfl⟩ := inN (n := 3) ⟨c2.1, by have := c2.2; rw [i32_le] at this; rw [i32_lt]; exact Int.lt_add_one_of_le this⟩ (by omega)
    unfold W_told_J45 M_told_J39
    rw [if_neg (show ¬ ((1 : Int32) = 0) by decide)]
    by_cases d1 : lg_cmp v (-999999) < 0
    · rw [if_pos d1, if_pos d1]
      exact ⟨_, _, _, rfl, rfl, same⟩
    rw [if_neg d1, if_neg d1]
    by_cases d2 : lg_cmp v 999999 ≤ 0
    · rw [if_pos d2, if_pos d2, if_pos rfl, if_neg c0]
      exact fin2 (3 * p + q) (by omega) _ (by rw [show (3 : Int32) = nI 3 from rfl, nI_mul, nI_add])
    · rw [if_neg d2, if_neg d2]
      exact ⟨_, _, _, rfl, rfl, same⟩
theorem st47 (hA : Stb A) (hc : ∀ σ τ, A σ τ → τ.1 302 = σ.1 16) : St47 (InvA A) := by
  intro σ τ xs i h
  obtain ⟨np, ne, bl, hP, hB, ⟨m1, m2, m3, m4, m5, m6, m7, m8, m9, m10, m11, m12, m13, m14, m15, m16, m17, m18, m19⟩, ha⟩ := h
  have hM : MisI σ τ np := ⟨m1, m2, m3, m4, m5, m6, m7, m8, m9, m10, m11, m12, m13, m14, m15, m16, m17, m18, m19⟩
  have same : InvA A σ τ := ⟨np, ne, bl, hP, hB, hM, ha⟩
  obtain ⟨nt, t1, t2, t3⟩ := m1
  obtain ⟨nl, l1, l2, l3, -⟩ := m5
  obtain ⟨nr, r1, r2, r3⟩ := m8
  obtain ⟨ns, s1, s2, s3, -⟩ := m13
  obtain ⟨b1, b2, b3, b4, b5, b6, b7, b8, b9, b10, b11, b12, b13, b14, b15, b16, b17, b18, b19⟩ := hB
  generalize xs (i + 1) = p0
  unfold W_count M_count
  rw [hP.2.1, hP.2.2.1, b2, b3, hc σ τ ha, b19, l2, l3, r2, r3, s2, s3, t2, t3, m7.2]
  repeat' split
  all_goals exact ⟨_, rfl, rfl, same⟩
end EASY
