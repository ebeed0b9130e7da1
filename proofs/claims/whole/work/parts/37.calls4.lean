/-! more calls; laid by 37.py -/
theorem feed_s1 (v : Int64) {k : Nat} (hk : k < 8) : (v >>> ((8 * nI k).toInt64 &&& 63)).toBitVec = v.toBitVec.sshiftRight (8 * k) := by
  have : k = 0 ∨ k = 1 ∨ k = 2 ∨ k = 3 ∨ k = 4 ∨ k = 5 ∨ k = 6 ∨ k = 7 := by omega
  rw [Int64.toBitVec_shiftRight]
  show v.toBitVec.sshiftRight _ = _
  congr 1
  rcases this with rfl | rfl | rfl | rfl | rfl | rfl | rfl | rfl <;> decide
theorem feed_s2 (v : UInt64) {k : Nat} (hk : k < 8) : (v >>> ((8 * nI k).toInt64.toUInt64 &&& Int64.toUInt64 63)).toBitVec = v.toBitVec >>> (8 * k) := by
  have : k = 0 ∨ k = 1 ∨ k = 2 ∨ k = 3 ∨ k = 4 ∨ k = 5 ∨ k = 6 ∨ k = 7 := by omega
  rw [UInt64.toBitVec_shiftRight]
  show v.toBitVec >>> (BitVec.toNat _) = _
  congr 1
  rcases this with rfl | rfl | rfl | rfl | rfl | rfl | rfl | rfl <;> decide
theorem bit255 (w j : Nat) (h : 8 ≤ w) : (255#w).getLsbD j = decide (j < 8) := by
  rw [BitVec.getLsbD_ofNat, show (255 : Nat) = 2 ^ 8 - 1 from rfl, Nat.testBit_two_pow_sub_one]
  by_cases c : j < 8
  · simp [c]; omega
  · simp [c]
theorem feed_byte (v : Int64) {k : Nat} (hk : k < 8) : ((v >>> ((8 * nI k).toInt64 &&& 63)) &&& 255).toInt32 = (((v.toUInt64 >>> ((8 * nI k).toInt64.toUInt64 &&& Int64.toUInt64 63)).toInt64).toInt32) &&& 255 := by
  apply Int32.toBitVec_inj.mp
  apply BitVec.eq_of_getLsbD_eq
  intro j hj
  rw [Int64.toBitVec_toInt32, Int64.toBitVec_and, feed_s1 v hk, Int32.toBitVec_and, Int64.toBitVec_toInt32, UInt64.toBitVec_toInt64, feed_s2 _ hk]
  rw [BitVec.getLsbD_signExtend, BitVec.getLsbD_and, BitVec.getLsbD_and, BitVec.getLsbD_signExtend, if_pos (by omega), if_pos (by omega), BitVec.getLsbD_sshiftRight, BitVec.getLsbD_ushiftRight]
  rw [show (255 : Int64).toBitVec = 255#64 from rfl, show (255 : Int32).toBitVec = 255#32 from rfl, bit255 _ _ (by decide), bit255 _ _ (by decide)]
  by_cases c : j < 8
  · rw [if_pos (by omega)]
    simp [c, hj]
    omega
  · simp [c]
theorem and255 (y : Int32) : InR (y &&& 255) 0 255 := by
  have h : (y &&& 255).toBitVec.toNat ≤ 255 := by
    rw [Int32.toBitVec_and, BitVec.toNat_and]
    exact Nat.and_le_right
  unfold InR
  have e : (y &&& 255).toInt = ((y &&& 255).toBitVec.toNat : Int) := by
    show (y &&& 255).toBitVec.toInt = _
    rw [BitVec.toInt_eq_toNat_of_lt (by omega)]
  rw [e]
  omega
section EASY
variable {A : MS → XS → Prop}
theorem feed_loop (hA : Stb A) (v : Int64) : ∀ (m fu nt : Nat) (σ : MS) (τ : XS), m ≤ 8 → m < fu → InvA A σ τ → σ.1 15 = nI nt → nt + m ≤ 200 → ∃ (r : Int32) (σ1 : MS) (τ1 : XS), W_feed_L37_r fu τ v (nI m - 1) = some (r, τ1) ∧ M_feed_L33_r fu σ v (nI m - 1) = some (r, σ1) ∧ InvA A σ1 τ1 := by
  intro m
  induction m with
  | zero =>
    intro fu nt σ τ h8 hf h h15 hn
    obtain ⟨f, rfl, -⟩ := fuel hf
    have same : InvA A σ τ := h
    obtain ⟨np, ne, bl, hP, hB, ⟨m1, m2, m3, m4, m5, m6, m7, m8, m9, m10, m11, m12, m13, m14, m15, m16, m17, m18, m19⟩, ha⟩ := h
    obtain ⟨nt', t1, t2, t3⟩ := m1
    rw [M_feed_L33_r, W_feed_L37_r, if_pos (by decide), if_pos (by decide), t2, t3]
    exact ⟨_, _, _, rfl, rfl, same⟩
  | succ m ih =>
    intro fu nt σ τ h8 hf h h15 hn
    obtain ⟨f, rfl, hf2⟩ := fuel hf
    obtain ⟨np, ne, bl, hP, hB, ⟨m1, m2, m3, m4, m5, m6, m7, m8, m9, m10, m11, m12, m13, m14, m15, m16, m17, m18, m19⟩, ha⟩ := h
    obtain ⟨nt', t1, t2, t3⟩ := m1
    have : nt' = nt := (nI_eq (by omega) (by omega)).mp (t2.symm.trans h15)
    subst this
    have e1 : nI (m + 1) - 1 = nI m := by rw [← nI_1, Int32.add_sub_cancel]
    have nx := ih f (nt' + 1) (sI (sA σ 14 (upd (σ.2.1 14) nt' (((v >>> ((8 * nI m).toInt64 &&& 63)) &&& 255).toInt32))) 15 (nI (nt' + 1))) (xA (xI τ 701 (nI (nt' + 1))) 700 (upd (τ.2.1 700) nt' (((v >>> ((8 * nI m).toInt64 &&& 63)) &&& 255).toInt32))) (by omega) (by omega) ⟨np, ne, bl, hP, hB, ⟨⟨nt' + 1, by omega, rfl, rfl⟩, (by show upd (τ.2.1 700) nt' _ = upd (σ.2.1 14) nt' _; rw [m2]), (fun q => by
      show InR (upd (σ.2.1 14) nt' _ q) 0 255
      by_cases e : q = nt'
      · rw [e, pk_us, feed_byte v (by omega)]; exact and255 _
      · rw [pk_un e]; exact m3 q), m4, m5, m6, m7, m8, m9, m10, m11, m12, m13, m14, m15, m16, m17, m18, m19⟩, hA σ _ τ _ ha rfl rfl rfl rfl rfl rfl rfl rfl rfl rfl rfl rfl rfl⟩ rfl (by omega)
    obtain ⟨r, σ1, τ1, z1, z2, z3⟩ := nx
    refine ⟨r, σ1, τ1, ?_, ?_, z3⟩
    · rw [W_feed_L37_r, e1, if_neg (nI_not_lt0 (by omega)), ← feed_byte v (by omega)]
      unfold Tp_addByte
      rw [t3, if_neg (by rw [show (200 : Int32) = nI 200 from rfl, nI_leI (by omega) (by omega)]; omega), wr_nI (by omega) (by decide), bind_pq, cl_nI (by omega), nI_1, ← Int32.sub_eq_add_neg]
      exact z1
    · rw [M_feed_L33_r, e1, if_neg (nI_not_lt0 (by omega)), h15, wr_nI (by omega) (by decide), cl_nI (by omega), sA_1, h15, nI_1, ← Int32.sub_eq_add_neg]
      exact z2
theorem st14 (hA : Stb A) : St14 (InvA A) := by
  intro σ τ xs i h
  have same : InvA A σ τ := h
  obtain ⟨np, ne, bl, hP, hB, ⟨m1, m2, m3, m4, m5, m6, m7, m8, m9, m10, m11, m12, m13, m14, m15, m16, m17, m18, m19⟩, ha⟩ := h
  obtain ⟨nt, t1, t2, t3⟩ := m1
  generalize ((((xs (i + 1))).toInt64 <<< ((32 : Int32).toInt64 &&& 63)) ||| (((xs (i + 2))).toInt64 &&& (4294967295))) = v
  generalize xs (i + 3) = p1
  unfold W_feed M_feed
  rw [M_in_eq, bind_so, b01_if, in_if1, t2, t3]
  by_cases c : 1 ≤ p1 ∧ p1 ≤ 8
  case neg =>
    rw [if_neg c, if_neg c]
    exact ⟨_, _, _, rfl, rfl, same⟩
  rw [if_pos c, if_pos c]
  obtain ⟨m, hm, rfl⟩ := inN (n := 9) ⟨by have := c.1; rw [i32_le] at this ⊢; exact Int.le_trans (by decide) this, by have := c.2; rw [i32_le] at this; rw [i32_lt]; exact Int.lt_add_one_of_le this⟩ (by omega)
  rw [nI_add]
  by_cases c2 : nI (nt + m) ≤ 200
  · rw [if_pos c2, if_pos c2]
    rw [show (200 : Int32) = nI 200 from rfl, nI_leI (by omega) (by omega)] at c2
    exact feed_loop hA v m 100000 nt σ τ (by omega) (by omega) same t2 c2
  · rw [if_neg c2, if_neg c2]
    exact ⟨_, _, _, rfl, rfl, same⟩
theorem Vw.firstLast {σ : MS} {τ : XS} {K np : Nat} (h : Vw σ τ K np) {p : Nat} (hp : p < np) (day : Int32) : ∃ f r, Lv_firstOf τ (nI p) day 4 = some f ∧ M_lastOf σ (nI p) 4 day = some r ∧ ((f = -1 ∧ r = -1) ∨ ∃ x y, f = nI x ∧ x < 200 ∧ r = nI y ∧ y < 200) := by
  have h' := h
  obtain ⟨hK, hnp, hk, -, -, ha, hd, hw, hs⟩ := h'
  obtain ⟨f, f1, f2⟩ := h.first hp day
  obtain ⟨r4, j1, j2, j3⟩ := h.lastJ hp day
  refine ⟨f, r4, f1, j1, ?_⟩
  rcases f2 with ⟨rfl, -, fn⟩ | ⟨e', rfl, he', hj', -⟩
  · rcases j3 with rfl | ⟨e'', rfl, he'', hs''⟩
    · exact Or.inl ⟨rfl, rfl⟩
    · exfalso
      obtain ⟨⟨k, hk7, ek⟩, -⟩ := hw e'' he'' hs''.1
      have g := hs''.2.1
      rw [ek] at g
      exact fn e'' he'' ⟨hs''.1, by rw [ek]; exact (kind_j hk7).mp g, hs''.2.2.2.1, hs''.2.2.2.2⟩
  · rcases j3 with rfl | ⟨e'', rfl, he'', -⟩
    · exfalso
      obtain ⟨r, q1, q2⟩ := M_lastOf_spec σ hk hK (nI p) 4 day
      rw [j1] at q1
      cases q1
      rcases q2 with ⟨-, q⟩ | ⟨i, g1, g2, -⟩
      · exact q e' he' ⟨hj'.1, by rw [hj'.2.1]; decide, by rw [hj'.2.1]; decide, hj'.2.2.1, hj'.2.2.2⟩
      · exact nI_ne_m1 (by omega) g2.symm
    · exact Or.inr ⟨e', e'', rfl, by omega, rfl, by omega⟩
theorem age_eq {σ : MS} {τ : XS} {np p : Nat} {day : Int32} (hP : PplI σ τ np) (hp : p < np) (hd : 0 ≤ day.toInt ∧ day.toInt ≤ 10000) : ∃ v, M_ageOf σ (nI p) day = some v ∧ Bk_ageOn τ (nI p) day = some v ∧ v.toInt = (if (σ.2.1 3 p).toInt ≤ day.toInt then (day.toInt - (σ.2.1 3 p).toInt) / 100 else 0) := by
  have h24 : p < 24 := by have := hP.1; omega
  obtain ⟨b1, b2⟩ := (hP.2.2.2.2.2.2.2 p hp).2.1
  obtain ⟨d1, d2⟩ := hd
  unfold M_ageOf Bk_ageOn
  rw [Bk_isPerson_eq hP.2.2.1, bind_so, b01_if, if_pos ⟨nI_le0 (by omega), by have := hP.1; rw [nI_ltI (by omega) (by omega)]; exact hp⟩, hP.2.2.2.2.1]
  simp only [rd_nI h24 (show 24 < 2 ^ 31 by decide)]
  have es : (day - σ.2.1 3 p).toInt = day.toInt - (σ.2.1 3 p).toInt := by
    rw [Int32.toInt_sub, show (2 : Nat) ^ 32 = 4294967296 from rfl]
    exact Int.bmod_eq_of_le (by omega) (by omega)
  have z0 : (0 : Int32).toInt = 0 := rfl
  unfold mxI
  by_cases c : σ.2.1 3 p ≤ day
  · have c' := c
    rw [i32_le] at c'
    rw [if_pos c, if_pos c']
    have ed : ((day - σ.2.1 3 p) / 100).toInt = (day.toInt - (σ.2.1 3 p).toInt) / 100 := by
      rw [Int32.toInt_div_of_ne_right _ _ (by decide), es, show (100 : Int32).toInt = 100 from rfl]
      exact Int.tdiv_eq_ediv_of_nonneg (by omega)
    refine ⟨_, rfl, ?_, ed⟩
    by_cases c2 : 0 < day - σ.2.1 3 p
    · rw [if_pos c2]
    · rw [if_neg c2]
      congr 1
      apply i32_eq.mpr
      rw [i32_lt, z0, es] at c2
      rw [ed, show ((0 : Int32) / 100).toInt = 0 from rfl]
      omega
  · have c' := c
    rw [i32_le] at c'
    rw [if_neg c, if_neg c']
    refine ⟨0, rfl, ?_, rfl⟩
    rw [if_neg (by rw [i32_lt, z0, es]; omega)]
    rfl
theorem st12 (hA : Stb A) : St12 (InvA A) := by
  intro σ τ xs i h
  have same : InvA A σ τ := h
  obtain ⟨np, ne, bl, hP, hB, hM, ha⟩ := h
  have hP1 := hP.1
  generalize xs (i + 1) = p0
  generalize xs (i + 2) = p1
  generalize xs (i + 3) = p2
  generalize xs (i + 4) = p3
  unfold W_live M_live
  rw [Bk_isPerson_eq hP.2.2.1, M_isPerson_eq hP.1 hP.2.1, Bk_isReach_eq hB.2.2.1, M_isBy_eq hB.2.1, M_in_eq, W_isDay_eq, M_isDay_eq, in_if1]
  simp only [bind_so, b01_if]
  by_cases c : 0 ≤ p0 ∧ p0 < nI np
  case neg =>
    rw [if_neg c, if_neg c]
    exact ⟨_, _, _, rfl, rfl, same⟩
  rw [if_pos c, if_pos c]
  obtain ⟨p, hp, rfl⟩ := inN c (by omega)
  by_cases c1 : -1 ≤ p2 ∧ p2 ≤ nI ne
  case neg =>
    rw [if_neg c1, if_neg c1]
    exact ⟨_, _, _, rfl, rfl, same⟩
  rw [if_pos c1, if_pos c1]
  by_cases c2 : 0 ≤ p3 ∧ p3 ≤ 5
  case neg =>
    rw [if_neg c2, if_neg c2]
    exact ⟨_, _, _, rfl, rfl, same⟩
  rw [if_pos c2, if_pos c2]
  by_cases c3 : 0 ≤ p1 ∧ p1 ≤ 9999
  case neg =>
    rw [if_neg c3, if_neg c3]
    exact ⟨_, _, _, rfl, rfl, same⟩
  rw [if_pos c3, if_pos c3]
  obtain ⟨K, s, d, d', a, t, l, hK, hk', q1, q2, q3, vw, P', B', M', A'⟩ := InvA.view hA hP hB hM ha c1
  have same' : InvA A (lookM σ K s d) (lookX τ d' a t l) := ⟨np, ne, bl, P', B', M', A'⟩
  rw [q1, q2, bind_pq, bind_pq]
  by_cases k0 : p3 = 0
  · rw [if_pos k0, if_pos k0]
    obtain ⟨v, e1, e2, -⟩ := vw.wedTo hp p1
    rw [e1, e2]
    exact ⟨_, _, _, rfl, rfl, same'⟩
  rw [if_neg k0, if_neg k0]
  by_cases k1 : p3 = 1
  · rw [if_pos k1, if_pos k1]
    obtain ⟨v, e1, e2, -⟩ := vw.seat hp p1
    rw [e1, e2]
    exact ⟨_, _, _, rfl, rfl, same'⟩
  rw [if_neg k1, if_neg k1]
  by_cases k2 : p3 = 2
  · rw [if_pos k2, if_pos k2]
    obtain ⟨f, r4, f1, j1, g⟩ := vw.firstLast hp p1
    rw [f1, j1, bind_so, bind_so]
    rcases g with ⟨rfl, rfl⟩ | ⟨x, y, rfl, hx, rfl, hy⟩
    · rw [if_pos rfl, if_neg (by decide)]
      exact ⟨_, _, _, rfl, rfl, same'⟩
    · rw [if_pos (nI_le0 (by omega)), if_neg (nI_ne_m1 (by omega))]
      obtain ⟨v, e1, e2, -⟩ := vw.rate hp p1
      rw [e1, e2]
      exact ⟨_, _, _, rfl, rfl, same'⟩
  rw [if_neg k2, if_neg k2]
  by_cases k3 : p3 = 3
  · rw [if_pos k3, if_pos k3]
    obtain ⟨n, -, e1, e2⟩ := vw.wedN hp p1
    rw [e1, e2]
    exact ⟨_, _, _, rfl, rfl, same'⟩
  rw [if_neg k3, if_neg k3]
  by_cases k4 : p3 = 4
  · rw [if_pos k4, if_pos k4]
    obtain ⟨v, hv, e1, e2⟩ := vw.lives hp p1
    rw [e1, e2, bind_so, bind_so]
    rcases hv with rfl | rfl
    · rw [if_pos rfl, if_pos rfl]
      exact ⟨_, _, _, rfl, rfl, same'⟩
    · rw [if_neg (by decide), if_neg (by decide)]
      obtain ⟨v, e3, e4, -⟩ := age_eq P' hp ⟨(dayOk_of c3).1, by have := (dayOk_of c3).2; omega⟩
      rw [e3, e4]
      exact ⟨_, _, _, rfl, rfl, same'⟩
  rw [if_neg k4, if_neg k4, rd_nI (by omega) (by decide), rd_nI (by omega) (by decide), vw.2.2.2.2.2.2.1 p hp]
  exact ⟨_, _, _, rfl, rfl, same'⟩
end EASY
