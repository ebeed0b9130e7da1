/-! years tried by a row of deaths: shortBy -/
theorem upd_self {f : Nat → Int32} {k : Nat} : upd f k (f k) = f := by
  funext j
  unfold upd
  split
  · next e => rw [e]
  · rfl
theorem sA_self {σ : MS} {j : Nat} : sA σ j (σ.2.1 j) = σ := by
  refine Prod.ext rfl (Prod.ext (funext fun k => ?_) rfl)
  show va_up σ.2.1 j (σ.2.1 j) k = σ.2.1 k
  unfold va_up
  split
  · next e => rw [e]
  · rfl
section SHORT
variable {σ σ' : MS} {τ τ' : XS} {K np ne na : Nat} {bl od : List Nat} {hh : Nat → Nat}
theorem SameM.d44 (f : Nat → Int32) : SameM σ (sA σ 44 f) := ⟨fun _ _ _ _ _ => Eq.refl _, fun j _ h2 _ => sA_ne h2, Eq.refl _⟩
theorem SameX.d401 (f : Nat → Int32) : SameX τ (xA τ 401 f) := ⟨fun _ _ _ _ => Eq.refl _, fun j _ _ _ h4 _ _ _ => xA_ne h4, Eq.refl _⟩
theorem CV.die (h : CV σ τ K np ne bl na hh od) {p : Nat} (hp : p < np) {d : Int32} (hd : DayOk d) (hb : (σ.2.1 3 p).toInt ≤ d.toInt) : CV (sA σ 44 (upd (σ.2.1 44) p d)) (xA τ 401 (upd (τ.2.1 401) p d)) K np ne bl na hh od := by
  obtain ⟨B, ⟨v1, v2, v3, v4, v5, v6, v7, v8, v9⟩, hK, D⟩ := h
  refine ⟨B.to (SameM.d44 _) (SameX.d401 _), ⟨v1, v2, v3, v4, v5, v6, fun q hq => ?_, v8, v9⟩, hK, fun q hq => ?_⟩
  · show upd (τ.2.1 401) p d q = upd (σ.2.1 44) p d q
    by_cases c : q = p
    · rw [c, pk_us, pk_us]
    · rw [pk_un c, pk_un c]; exact v7 q hq
  · show upd (σ.2.1 44) p d q = 10000 ∨ (DayOk (upd (σ.2.1 44) p d q) ∧ (σ.2.1 3 q).toInt ≤ (upd (σ.2.1 44) p d q).toInt)
    by_cases c : q = p
    · rw [c, pk_us]; exact Or.inr ⟨hd, hb⟩
    · rw [pk_un c]; exact D q hq
/-- a row's deaths, one behind the other -/
theorem CV.dieRow (h : CV σ τ K np ne bl na hh od) {row : Nat} (hr : row < 4) : ∃ σ' τ', M_looksWith_L7 100000 σ (nI row) 0 = some ((), σ') ∧ Tr_dieByRow τ (nI row) = some ((), τ') ∧ CV σ' τ' K np ne bl na hh od ∧ SameM σ σ' ∧ SameX τ τ' := by
  have h24 : np ≤ 24 := h.1.1.1
  obtain ⟨-, r902, r903, r904, rr, -⟩ := h.1.2.2.1.2.2.2.2.2.2.2
  have r902' : τ.2.1 902 = σ.2.1 36 := r902
  have r903' : τ.2.1 903 = σ.2.1 37 := r903
  have r904' : τ.2.1 904 = σ.2.1 38 := r904
  obtain ⟨nd, n8, end', hk⟩ := rr row hr
  have end'' : σ.2.1 36 row = nI nd := end'
  have hk' : ∀ k, k < nd → (∃ p, p < np ∧ σ.2.1 37 (8 * row + k) = nI p) ∧ InR (σ.2.1 38 (8 * row + k)) 0 99 := hk
  have key : ∀ (n i fu fu' : Nat) (σ' : MS) (τ' : XS), i + n = nd → n < fu → n < fu' → CV σ' τ' K np ne bl na hh od → SameM σ σ' → SameX τ τ' → ∃ σ2 τ2, M_looksWith_L7_r fu σ' (nI row) (nI i) = some ((), σ2) ∧ Tr_dieByRow_L2_r fu' τ' (nI row) (nI i) = some ((), τ2) ∧ CV σ2 τ2 K np ne bl na hh od ∧ SameM σ σ2 ∧ SameX τ τ2 := by
    intro n
    induction n with
    | zero =>
      intro i fu fu' σ' τ' hi hf hf' hv hm hx
      obtain ⟨f, rfl, -⟩ := fuel hf
      obtain ⟨f', rfl, -⟩ := fuel hf'
      have hi : i = nd := by omega
      subst hi
      refine ⟨σ', τ', ?_, ?_, hv, hm, hx⟩
      · rw [M_looksWith_L7_r, if_neg (nI_not_lt0 (by omega)), rd_nI hr (by decide), hm.2.1 36 (by decide) (by decide) (by decide), end'', if_pos (Int32.le_refl _)]
      · rw [Tr_dieByRow_L2_r, rd_nI hr (by decide), hx.2.1 902 (by decide) (by decide) (by decide) (by decide) (by decide) (by decide) (by decide), r902', end'', if_pos (Int32.le_refl _)]
    | succ n ih =>
      intro i fu fu' σ' τ' hi hf hf' hv hm hx
      obtain ⟨f, rfl, hf2⟩ := fuel hf
      obtain ⟨f', rfl, hf2'⟩ := fuel hf'
      obtain ⟨⟨p, hp, ep⟩, ey⟩ := hk' i (by omega)
      obtain ⟨y, hy, eY⟩ := inRn (n := 99) ey (by decide)
      obtain ⟨v, v0, v1, v2⟩ := hv.lives hp (nI (100 * y + 50))
      have v1' : M_lives σ' (nI p) (nI (100 * y + 50)) = some v := v1 σ' (Rm.refl σ')
      have v2' : Lv_livesOn τ' (nI p) (nI (100 * y + 50)) = some v := v2 τ' (Rx.refl τ')
      have e1 : (nI row * 8 + nI i : Int32) = nI (8 * row + i) := by rw [show (8 : Int32) = nI 8 from rfl, nI_mul, nI_add, Nat.mul_comm]
      have e2 : ((100 : Int32) * nI y + 50) = nI (100 * y + 50) := by rw [yd', show (50 : Int32) = nI 50 from rfl, nI_add]
      have e3 : (nI y * 100 + 50 : Int32) = nI (100 * y + 50) := by rw [yd, show (50 : Int32) = nI 50 from rfl, nI_add]
      rw [M_looksWith_L7_r, if_neg (nI_not_lt0 (by omega)), rd_nI hr (by decide), hm.2.1 36 (by decide) (by decide) (by decide), end'', if_neg (nI_ge (by omega) (by omega)), nI_mul8, nI_add, rd_nI (by omega) (by decide), rd_nI (by omega) (by decide), hm.2.1 37 (by decide) (by decide) (by decide), hm.2.1 38 (by decide) (by decide) (by decide), ep, eY, e2, v1', bind_so]
      rw [Tr_dieByRow_L2_r, rd_nI hr (by decide), hx.2.1 902 (by decide) (by decide) (by decide) (by decide) (by decide) (by decide) (by decide), r902', end'', if_neg (nI_ge (by omega) (by omega)), e1, rd_nI (show 8 * row + i < 32 by omega) (by decide), hx.2.1 904 (by decide) (by decide) (by decide) (by decide) (by decide) (by decide) (by decide), hx.2.1 903 (by decide) (by decide) (by decide) (by decide) (by decide) (by decide) (by decide), r903', r904', eY, e3, rd_nI (show 8 * row + i < 32 by omega) (by decide), ep, v2', bind_so]
      unfold M_looksWith_J78 Tr_dieByRow_J65
      rcases v0 with rfl | rfl
      · rw [if_pos rfl, if_pos rfl, rd_nI (show p < 24 by omega) (by decide), wr_nI (show p < 24 by omega) (by decide), cl_nI (by omega), upd_self, sA_self, nI_1]
        exact ih (i + 1) f f' σ' τ' (by omega) (by omega) (by omega) hv hm hx
      · have hb := lives_born (by omega) v1'
        rw [if_neg n10, if_neg n10, wr_nI (show p < 24 by omega) (by decide), rd_nI (show 8 * row + i < 32 by omega) (by decide), ep, wr_nI (show p < 24 by omega) (by decide), cl_nI (by omega), nI_1]
        exact ih (i + 1) f f' _ _ (by omega) (by omega) (by omega) (hv.die hp (by unfold DayOk; rw [nI_i (by omega)]; omega) hb) (hm.trans (SameM.d44 _)) (hx.trans (SameX.d401 _))
  obtain ⟨σ2, τ2, a1, a2, a3, a4, a5⟩ := key nd 0 100000 100000 σ τ (by omega) (by omega) (by omega) h SameM.rfl SameX.rfl
  exact ⟨σ2, τ2, a1, a2, a3, a4, a5⟩
theorem CB.lookRow (h : CB σ τ np ne bl na hh od) {nr : Nat} (h4 : nr ≤ 4) (h901 : τ.1 901 = nI nr) {row : Int32} (hr : row = -1 ∨ ∃ k, k < nr ∧ row = nI k) : ∃ K σl τl τ1, M_looksWith σ row = some ((), σl) ∧ Cn_lookByRow τ row = some ((), τ1) ∧ CK σl τl K np ne bl na hh od ∧ Rx τl τ1 ∧ SameM σ σl ∧ SameX τ τl := by
  obtain ⟨K, σl, τl, q1, q2, cv, sM, sX⟩ := h.read (e := -1) (reach_m1 h.2.1.1)
  have fin : ∀ σ2 τ2, CV σ2 τ2 K np ne bl na hh od → SameM σ σ2 → SameX τ τ2 → ∃ τl τ1, Cn_lookByRow_J35 τ2 = some ((), τ1) ∧ CK σ2 τl K np ne bl na hh od ∧ Rx τl τ1 ∧ SameX τ τl := by
    intro σ2 τ2 cv sM sX
    obtain ⟨f, τ3, k1, k2, k3⟩ := markKept_spec cv
    refine ⟨xA τ2 206 f, τ3, ?_, ⟨cv.kp f, by rw [xA_get]; exact k3⟩, k2, sX.trans ⟨fun _ _ _ _ => rfl, fun j j1 _ _ _ _ _ _ => xA_ne j1, rfl⟩⟩
    unfold Cn_lookByRow_J35
    rw [k1, bind_pq]
  unfold M_looksWith Cn_lookByRow
  rw [q1, q2, bind_pq, bind_pq]
  rcases hr with rfl | ⟨k, hk, rfl⟩
  · obtain ⟨τl', τ1, a1, a2, a3, a4⟩ := fin σl τl cv sM sX
    refine ⟨K, σl, τl', τ1, ?_, ?_, a2, a3, sM, a4⟩
    · unfold M_looksWith_L7
      rw [show (100000 : Nat) = 99999 + 1 from rfl, M_looksWith_L7_r, if_pos (by decide)]
    · rw [if_pos (by decide)]
      exact a1
  · obtain ⟨σ2, τ2, b1, b2, b3, b4, b5⟩ := cv.dieRow (row := k) (by omega)
    obtain ⟨τl', τ1, a1, a2, a3, a4⟩ := fin σ2 τ2 b3 (sM.trans b4) (sX.trans b5)
    refine ⟨K, σ2, τl', τ1, b1, ?_, a2, a3, sM.trans b4, a4⟩
    rw [if_neg (nI_not_lt0 (by omega)), sX.1 901 (by decide) (by decide) (by decide), h901, if_neg (nI_ge (by omega) (by omega)), b2, bind_pq]
    exact a1
/-- what men pay as it comes -/
noncomputable def dT (σ : MS) (K Y p : Nat) : Int64 := if σ.2.1 2 p = 0 then (vM σ (fun s => M_dueOf s (nI p) (nI (100 * Y)))).toInt64 + Int64.ofInt (sumL (tx σ p) (fl (TxS σ K p (nI Y)) K)) else 0
theorem CK.short (h : CK σ τ K np ne bl na hh od) {Y n : Nat} (hY : Y < 100) (hn : n ≤ 20) : ∀ (m y fu fu' : Nat) (C : Int64) (σ' : MS) (τ' : XS), y + m = Y + n + 1 → Y < y → m < fu → m < fu' → Rm σ σ' → Rx τ τ' → ∃ r σ1 τ1, M_shortOf_L14_r fu σ' (nI Y) (nI n) C (nI y) = some (r, σ1) ∧ Rm σ σ1 ∧ Cn_shortYear_L8_r fu' τ' (nI Y) (nI n) C (nI y) = some (r, τ1) ∧ Rx τ τ1 ∧ (r = -5 ∨ ∃ k, k < 100 ∧ r = nI k) := by
  have h24 : np ≤ 24 := h.1.1.1.1
  intro m
  induction m with
  | zero =>
    intro y fu fu' C σ' τ' hy hyY hf hf' hm hx
    obtain ⟨f, rfl, -⟩ := fuel hf
    obtain ⟨f', rfl, -⟩ := fuel hf'
    have hlt : nI (Y + n) < nI y := (nI_ltI (by omega) (by omega)).mpr (by omega)
    exact ⟨-5, σ', τ', by rw [M_shortOf_L14_r, nI_add, if_pos hlt], hm, by rw [Cn_shortYear_L8_r, nI_add, if_pos hlt], hx, Or.inl rfl⟩
  | succ m ih =>
    intro y fu fu' C σ' τ' hy hyY hf hf' hm hx
    obtain ⟨f, rfl, hf2⟩ := fuel hf
    obtain ⟨f', rfl, hf2'⟩ := fuel hf'
    have hlt : ¬ nI (Y + n) < nI y := by rw [nI_ltI (by omega) (by omega)]; omega
    rw [M_shortOf_L14_r, nI_add, if_neg hlt, Cn_shortYear_L8_r, nI_add, if_neg hlt]
    by_cases c100 : (100 : Int32) ≤ nI y
    · rw [if_pos c100, if_pos c100]
      exact ⟨-5, σ', τ', rfl, hm, rfl, hx, Or.inl rfl⟩
    rw [if_neg c100, if_neg c100]
    have hy100 : y < 100 := by rw [show (100 : Int32) = nI 100 from rfl, nI_leI (by omega) (by omega)] at c100; omega
    obtain ⟨b1, b2⟩ := h.brs (Y := y) hy100
    -- the reference: members first
    have men : ∀ (k i fu : Nat) (σ' : MS) (B : Int64), i + k = np → k < fu → Rm σ σ' → ∃ σ1, Rm σ σ1 ∧ M_shortOf_L32_r (M_shortOf_L14_r f) fu σ' (nI Y) (nI n) (B + sC (dT σ K y) i) (nI y) (nI i) = (M_brings σ1 (nI y)).bind (pq fun r2 r2s => (if 0 ≤ (lg_cmp ((B + sC (dT σ K y) np) + r2) 0) then M_shortOf_L14_r f r2s (nI Y) (nI n) ((B + sC (dT σ K y) np) + r2) (nI (y + 1)) else some (nI y, r2s))) := by
      intro k
      induction k with
      | zero =>
        intro i fu σ' B hi hf hm
        obtain ⟨fx, rfl, -⟩ := fuel hf
        have hi : i = np := by omega
        subst hi
        exact ⟨σ', hm, by rw [M_shortOf_L32_r, hm.1 1 (by decide) (by decide) (by decide), h.1.1.1.2.1, if_pos (Int32.le_refl _), nI_1]⟩
      | succ k ihk =>
        intro i fu σ' B hi hf hm
        obtain ⟨fx, rfl, hfx⟩ := fuel hf
        have hin : i < np := by omega
        have nx := fun σ' hm => ihk (i + 1) fx σ' B (by omega) (by omega) hm
        rw [M_shortOf_L32_r, hm.1 1 (by decide) (by decide) (by decide), h.1.1.1.2.1, if_neg (nI_ge (by omega) (by omega)), rd_nI (by omega) (by decide), hm.2.1 2 (by decide)]
        unfold M_shortOf_J78
        rw [nI_1]
        by_cases c : σ.2.1 2 i = 0
        · rw [if_pos c, yd']
          obtain ⟨u, t, u0, t0, u1, u2, t1, t2⟩ := h.1.dueTax hin c (Y := y) hy100
          obtain ⟨σ1, q1, q2⟩ := u1 σ' hm
          have q1' : M_dueOf σ' (nI i) (nI (100 * y)) = some (u, σ1) := q1
          obtain ⟨σ2, z1, z2⟩ := M_taxOf_spec h.1 hin (nI y) σ1 q2
          have z1' : M_taxOf σ1 (nI i) (nI y) = some (Int32.ofInt (sumL (tx σ i) (fl (TxS σ K i (nI y)) K)), σ2) := z1
          have tr := h.1.taxR hin (nI y)
          rw [q1', bind_pq, z1', bind_pq]
          have e : (u + Int32.ofInt (sumL (tx σ i) (fl (TxS σ K i (nI y)) K))).toInt64 = dT σ K y i := by
            unfold dT
            rw [if_pos c, u1.val]
            have q0 := u0.1
            have q1 := u0.2
            rw [i64_of (x := u.toInt + sumL (tx σ i) (fl (TxS σ K i (nI y)) K)) ?_, Int64.ofInt_add, ← i64_of (v := u) rfl]
            rw [Int32.toInt_add, i32T (by omega) (by omega), show (2 : Nat) ^ 32 = 4294967296 from rfl]
            exact Int.bmod_eq_of_le (by omega) (by omega)
          obtain ⟨σ3, w1, w2⟩ := nx σ2 z2
          refine ⟨σ3, w1, ?_⟩
          rw [← w2, e, sC, Int64.add_assoc]
        · rw [if_neg c]
          obtain ⟨σ3, w1, w2⟩ := nx σ' hm
          refine ⟨σ3, w1, ?_⟩
          rw [← w2, sC, show dT σ K y i = 0 from if_neg c]
          simp only [Int64.add_zero]
    -- the class: the rest first
    have menX : ∀ (k i fu : Nat) (τ' : XS) (B : Int64), i + k = np → k < fu → Rx τ τ' → ∃ τ1, Rx τ τ1 ∧ Cn_shortYear_L38_r (Cn_shortYear_L8_r f') fu τ' (nI Y) (nI n) (B + sC (dT σ K y) i) (nI y) (nI i) = if 0 ≤ (lg_cmp (B + sC (dT σ K y) np) 0) then Cn_shortYear_L8_r f' τ1 (nI Y) (nI n) (B + sC (dT σ K y) np) (nI (y + 1)) else some (nI y, τ1) := by
      intro k
      induction k with
      | zero =>
        intro i fu τ' B hi hf hx
        obtain ⟨fx, rfl, -⟩ := fuel hf
        have hi : i = np := by omega
        subst hi
        exact ⟨τ', hx, by rw [Cn_shortYear_L38_r, hx.1 104 (by decide) (by decide) (by decide), h.1.1.1.2.2.1, if_pos (Int32.le_refl _), nI_1]⟩
      | succ k ihk =>
        intro i fu τ' B hi hf hx
        obtain ⟨fx, rfl, hfx⟩ := fuel hf
        have hin : i < np := by omega
        have nx := fun τ' hx => ihk (i + 1) fx τ' B (by omega) (by omega) hx
        obtain ⟨a, l, sg, hmem⟩ := h.1.2.1.2.2.2.2.2.2.2.2 i hin
        have l400 := sg.2.2.2.1
        rw [Cn_shortYear_L38_r, hx.1 104 (by decide) (by decide) (by decide), h.1.1.1.2.2.1, if_neg (nI_ge (by omega) (by omega)), rd_nI (by omega) (by decide), rd_nI (by omega) (by decide), hx.2.1 402 (by decide) (by decide), hx.2.1 403 (by decide) (by decide), sg.2.1, sg.2.2.1]
        unfold Cn_shortYear_J108
        rw [nI_1]
        have skip : dT σ K y i = 0 → ∃ τ1, Rx τ τ1 ∧ Cn_shortYear_L38_r (Cn_shortYear_L8_r f') fx τ' (nI Y) (nI n) (B + sC (dT σ K y) i) (nI y) (nI (i + 1)) = if 0 ≤ (lg_cmp (B + sC (dT σ K y) np) 0) then Cn_shortYear_L8_r f' τ1 (nI Y) (nI n) (B + sC (dT σ K y) np) (nI (y + 1)) else some (nI y, τ1) := by
          intro e
          obtain ⟨τ3, w1, w2⟩ := nx τ' hx
          refine ⟨τ3, w1, ?_⟩
          rw [← w2, sC, e, Int64.add_zero]
        by_cases cl : l.length = 0
        · have hl : l = [] := List.length_eq_zero_iff.mp cl
          have no : ∀ e, ¬ Own σ K i e := fun e g => by
            have := (hmem e).mpr g
            rw [hl] at this
            exact absurd this List.not_mem_nil
          rw [cl, Nat.add_zero, if_pos (Int32.le_refl _)]
          refine skip ?_
          unfold dT
          by_cases c : σ.2.1 2 i = 0
          · rw [if_pos c]
            obtain ⟨u, -, u1, -⟩ := h.1.due hin hy100
            have e0 : u = 0 := by
              obtain ⟨σ1, q1, -⟩ := u1 σ (Rm.refl σ)
              have q1' : M_dueOf σ (nI i) (nI (100 * y)) = some (u, σ1) := q1
              unfold M_dueOf at q1'
              rw [(h.1.2.1.noMember hin (nI (100 * y)) no).1, bind_so, if_pos rfl] at q1'
              exact (Prod.mk.inj (Option.some.inj q1')).1.symm
            have e1 : fl (TxS σ K i (nI y)) K = [] := by
              rw [List.eq_nil_iff_forall_not_mem]
              intro e he
              obtain ⟨g1, g2⟩ := fl_mem.mp he
              exact no e ⟨g1, g2.1.1, by rw [g2.1.2.1]; decide, Or.inl g2.1.2.2⟩
            rw [u1.val, e0, e1, sumL_nil]
            rfl
          · rw [if_neg c]
        rw [if_neg (nI_ge (by omega) (by omega)), rd_nI (by omega) (by decide), hx.2.1 100 (by decide) (by decide), h.1.1.1.2.2.2.1]
        by_cases c : σ.2.1 2 i = 0
        case neg =>
          rw [if_neg c]
          exact skip (if_neg c)
        rw [if_pos c]
        obtain ⟨u, -, u1, u2⟩ := h.1.due hin hy100
        obtain ⟨τ1, q1, q2⟩ := u2 τ' hx
        have q1' : Cn_duesOf τ' (nI i) (nI y) = some (u.toInt64, τ1) := q1
        obtain ⟨τ2, z1, z2⟩ := Cn_taxOf_spec h.1 hin c (nI y) τ1 q2
        have z1' : Cn_taxOf τ1 (nI i) (nI y) = some (Int64.ofInt (sumL (tx σ i) (fl (TxS σ K i (nI y)) K)), τ2) := z1
        have e : u.toInt64 + Int64.ofInt (sumL (tx σ i) (fl (TxS σ K i (nI y)) K)) = dT σ K y i := by
          unfold dT
          rw [if_pos c, u1.val]
        obtain ⟨τ3, w1, w2⟩ := nx τ2 z2
        refine ⟨τ3, w1, ?_⟩
        rw [q1', bind_pq, z1', bind_pq, ← w2, e, sC, Int64.add_assoc]
    obtain ⟨σ1, m1, m2⟩ := men np 0 100000 σ' C (by omega) (by omega) hm
    obtain ⟨σ2, q1, q2⟩ := b1 σ1 m1
    have q1' : M_brings σ1 (nI y) = some (br σ y, σ2) := q1
    obtain ⟨τ1, z1, z2⟩ := b2 τ' hx
    have z1' : Cn_apartFromMembers τ' (nI y) = some (br σ y, τ1) := z1
    obtain ⟨τ2, x1, x2⟩ := menX np 0 100000 τ1 (C + br σ y) (by omega) (by omega) z2
    rw [sC, Int64.add_zero] at m2 x2
    have m2' : M_shortOf_L32 (M_shortOf_L14_r f) 100000 σ' (nI Y) (nI n) C (nI y) 0 = _ := m2
    have x2' : Cn_shortYear_L38 (Cn_shortYear_L8_r f') 100000 τ1 (nI Y) (nI n) (C + br σ y) (nI y) 0 = _ := x2
    have es : (C + br σ y) + sC (dT σ K y) np = (C + sC (dT σ K y) np) + br σ y := by
      rw [Int64.add_assoc, Int64.add_comm (br σ y), ← Int64.add_assoc]
    rw [m2', q1', bind_pq, z1', bind_pq, x2', es]
    by_cases c : 0 ≤ lg_cmp ((C + sC (dT σ K y) np) + br σ y) 0
    · rw [if_pos c, if_pos c]
      exact ih (y + 1) f f' _ σ2 τ2 (by omega) (by omega) (by omega) (by omega) q2 x1
    · rw [if_neg c, if_neg c]
      exact ⟨nI y, σ2, τ2, rfl, q2, rfl, x1, Or.inr ⟨y, hy100, rfl⟩⟩
/-- a row tried: both find the same year -/
theorem CB.shortRow (h : CB σ τ np ne bl na hh od) {nr : Nat} (h4 : nr ≤ 4) (h901 : τ.1 901 = nI nr) {row : Int32} (hr : row = -1 ∨ ∃ k, k < nr ∧ row = nI k) {Y n : Nat} (hY : Y < 100) (hn : n ≤ 20) (C : Int64) : ∃ r σ1 τ0 τ1, M_shortOf σ row (nI Y) (nI n) C = some (r, σ1) ∧ SameM σ σ1 ∧ Cn_lookByRow τ row = some ((), τ0) ∧ Cn_shortYear τ0 C (nI Y) (nI n) = some (r, τ1) ∧ SameX τ τ1 ∧ (r = -5 ∨ ∃ k, k < 100 ∧ r = nI k) := by
  obtain ⟨K, σl, τl, τ0, q1, q2, ck, hx, sM, sX⟩ := h.lookRow h4 h901 hr
  obtain ⟨r, σ1, τ1, e1, e2, e3, e4, e5⟩ := ck.short hY hn n (Y + 1) 100000 100000 C σl τ0 (by omega) (by omega) (by omega) (by omega) (Rm.refl σl) hx
  refine ⟨r, σ1, τ0, τ1, ?_, sM.trans e2.same, q2, ?_, sX.trans e4.same, e5⟩
  · unfold M_shortOf M_shortOf_L14
    rw [q1, bind_pq, nI_1]
    exact e1
  · unfold Cn_shortYear Cn_shortYear_L8
    rw [nI_1]
    exact e3
end SHORT
theorem st40 : St40 (InvA ActI) := by
  intro σ τ xs i h
  have same : InvA ActI σ τ := h
  obtain ⟨np, ne, bl, hP, hB, hM, ha⟩ := h
  generalize xs (i + 1) = p0
  generalize xs (i + 2) = p1
  generalize xs (i + 3) = p2
  obtain ⟨nr, r4, r35, r901⟩ := hM.2.2.2.2.2.2.2.1
  unfold W_shortBy M_shortBy
  rw [W_isYear_eq, M_isYear_eq, M_in_eq, M_in_eq, r35, r901, in_if4]
  simp only [bind_so, b01_if]
  have ec : (-1 ≤ p0 ∧ p0 ≤ nI nr - 1) ↔ (-1 ≤ p0 ∧ p0 < nI nr) := by
    refine and_congr_right fun _ => ?_
    rw [i32_le, i32_lt, nI_m1 (by omega), nI_i (by omega)]
    omega
  by_cases c : -1 ≤ p0 ∧ p0 < nI nr
  case neg =>
    rw [if_neg c, if_neg fun g => c (ec.mp g)]
    exact ⟨_, _, _, rfl, rfl, same⟩
  rw [if_pos c, if_pos (ec.mpr c)]
  by_cases cy : 0 ≤ p1 ∧ p1 ≤ 99
  case neg =>
    rw [if_neg cy, if_neg cy]
    exact ⟨_, _, _, rfl, rfl, same⟩
  rw [if_pos cy, if_pos cy, in_if1]
  by_cases cn : 1 ≤ p2 ∧ p2 ≤ 20
  case neg =>
    rw [if_neg cn, if_neg cn]
    exact ⟨_, _, _, rfl, rfl, same⟩
  rw [if_pos cn, if_pos cn]
  obtain ⟨Y, hY, rfl⟩ := inRn (k := p1) (n := 99) ⟨i32_le.mp cy.1, i32_le.mp cy.2⟩ (by decide)
  obtain ⟨n, hn, rfl⟩ := inRn (k := p2) (n := 20) ⟨by have := i32_le.mp cn.1; rw [show (1 : Int32).toInt = 1 from rfl] at this; omega, i32_le.mp cn.2⟩ (by decide)
  have hrow : p0 = -1 ∨ ∃ k, k < nr ∧ p0 = nI k := by
    by_cases e : p0 = -1
    · exact Or.inl e
    · refine Or.inr (inN (n := nr) ⟨?_, c.2⟩ (by omega))
      have := i32_le.mp c.1
      rw [lit_m1] at this
      rw [i32_eq, lit_m1] at e
      rw [i32_le, show (0 : Int32).toInt = 0 from rfl]
      omega
  obtain ⟨na, hh, od, cb⟩ := InvA.cb hP hB hM ha
  obtain ⟨K, σl, τl, τ1, q1, q2, ck, hx, sM, sX⟩ := cb.look (e := -1) (reach_m1 hB.1)
  obtain ⟨v, v1, v2⟩ := ck.chest (Y := Y) (by omega)
  obtain ⟨σ2, y1, y2⟩ := v1 σl (Rm.refl σl)
  have y1' : M_chestBehind σl (nI Y) = some (v, σ2) := y1
  obtain ⟨τ2, z1, z2⟩ := v2 τ1 hx
  have z1' : Cn_chestBehind τ1 (nI Y) = some (v, τ2) := z1
  have sM2 : SameM σ σ2 := sM.trans y2.same
  have sX2 : SameX τ τ2 := sX.trans z2.same
  obtain ⟨r, σ3, τ3, τ4, e1, e2, e3, e4, e5, -⟩ := (cb.to sM2 sX2).shortRow r4 (by rw [sX2.1 901 (by decide) (by decide) (by decide)]; exact r901) hrow (Y := Y) (n := n) (by omega) hn v
  rw [q1, q2, bind_pq, bind_pq, y1', z1', bind_pq, bind_pq, e1, e3, bind_pq, bind_pq, e4, bind_pq]
  exact ⟨_, _, _, rfl, rfl, same.same ActI_stb (sM2.trans e2) (sX2.trans e5)⟩
