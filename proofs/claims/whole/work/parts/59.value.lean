/-! what the fund is worth -/
section VALUE
variable {σ σ' : MS} {τ τ' : XS} {K np ne na : Nat} {bl od : List Nat} {hh : Nat → Nat}
/-- a woman is never a member -/
theorem CV.woman (h : CV σ τ K np ne bl na hh od) {p : Nat} (hp : p < np) (hs : σ.2.1 2 p = 1) (d : Int32) : M_isMember σ (nI p) d = some 0 := by
  have vw := h.2.1
  have hK : K ≤ 200 := vw.1
  have h24 : np ≤ 24 := vw.2.1
  have hn : M_lastOf σ (nI p) 52 d = some (-1) := M_lastOf_none d vw.2.2.1 hK fun e he g => by
    obtain ⟨g1, g2, g3, g4, -⟩ := g
    rcases h.1.2.1.2.2.2.2.2.2.2.2.1 e (by have := h.2.2.1; omega) with ⟨g, -⟩ | ⟨-, -, q, hq, eq, -, s0, -⟩
    · rw [g] at g2; exact absurd g2 (by decide)
    · have : q = p := (nI_eq (by omega) (by omega)).mp (eq.symm.trans g4)
      subst this
      have k0 : σ.2.1 8 e ≠ 0 := fun g => by rw [g] at g2; exact absurd g2 (by decide)
      have := s0 k0
      rw [hs] at this
      exact absurd this (by decide)
  obtain ⟨v, hv, l1, -⟩ := vw.lives hp d
  unfold M_isMember M_isMember_J21
  rw [l1, bind_so, hn, bind_so, if_pos rfl]
  split <;> rfl
theorem CV.dead (h : CV σ τ K np ne bl na hh od) {p : Nat} (_hp : p < np) {d : Int32} (hl : M_lives σ (nI p) d = some 0) : M_isMember σ (nI p) d = some 0 := by
  unfold M_isMember M_isMember_J21
  rw [hl, bind_so, if_pos rfl, if_pos rfl]
theorem CK.deadW (h : CK σ τ K np ne bl na hh od) {p : Nat} (hp : p < np) {d : Int32} (hl : Lv_livesOn τ (nI p) d = some 0) : Cn_deadHusband τ (nI p) d = some (-1) := by
  unfold Cn_deadHusband
  rw [Bk_isWoman_nI h.1.1.1 hp, bind_so, b01_if, hl, bind_so, if_pos rfl]
  split <;> rfl
theorem CV.age99 (h : CV σ τ K np ne bl na hh od) {p : Nat} (hp : p < np) {d : Int32} (hd : DayOk d) : ∃ a, a ≤ 99 ∧ UM σ (fun s => M_ageOf s (nI p) d) (nI a) ∧ UX τ (fun t => Bk_ageOn t (nI p) d) (nI a) := by
  unfold DayOk at hd
  obtain ⟨r, -, r1, r2⟩ := h.age hp (d := d) (by omega)
  obtain ⟨v, v1, -, v3⟩ := age_eq h.1.1 hp (day := d) (by omega)
  have e : M_ageOf σ (nI p) d = some r := r1 σ (Rm.refl σ)
  rw [v1] at e
  have e := Option.some.inj e
  subst e
  have hb := (h.1.1.2.2.2.2.2.2.2 p hp).2.1
  unfold DayOk at hb
  obtain ⟨a, ha, rfl⟩ := inRn (k := v) (n := 99) ⟨by rw [v3]; split <;> omega, by rw [v3]; split <;> omega⟩ (by decide)
  exact ⟨a, ha, r1, r2⟩
theorem CV.worth (h : CV σ τ K np ne bl na hh od) (c : Int32) {a : Nat} (ha : a ≤ 99) : ∃ v, UM σ (fun s => M_worthOf s c.toInt64 (nI a)) v ∧ UX τ (fun t => Tb_worthOf t c (nI a)) v := by
  obtain ⟨⟨t1, t2, t3⟩, ⟨i1, i2⟩, -⟩ := h.1.2.2.1.2.2.2.2.2
  have t1' : τ.2.1 600 = σ.2.1 33 := t1
  have t2' : ∀ a, a < 100 → InR (σ.2.1 33 a) 0 1000 := t2
  have t3' : σ.2.1 33 99 = 1000 := t3
  have i1' : InR (σ.1 34) 0 20 := i1
  have i2' : τ.1 601 = σ.1 34 := i2
  refine ⟨wrt (σ.2.1 33) (σ.1 34) c.toInt64 a (99 - a) / 1000000000000, fun σ' hm => ?_, fun τ' hx => ?_⟩
  · show M_worthOf σ' c.toInt64 (nI a) = _
    rw [M_worthOf_spec (σ := σ') (by rw [hm.1 34 (by decide) (by decide) (by decide)]; exact i1') (by rw [hm.2.1 33 (by decide)]; exact t2') ha, hm.1 34 (by decide) (by decide) (by decide), hm.2.1 33 (by decide)]
  · show Tb_worthOf τ' c (nI a) = _
    rw [Tb_worthOf_spec (τ := τ') (by rw [hx.1 601 (by decide) (by decide) (by decide), i2']; exact i1') (by rw [hx.2.1 600 (by decide) (by decide), t1']; exact t2') (by rw [hx.2.1 600 (by decide) (by decide), t1']; exact t3') ha, hx.1 601 (by decide) (by decide) (by decide), hx.2.1 600 (by decide) (by decide), t1', i2']
theorem k1 (c b x : Int64) : (c + b) + x = c + (b + x) := Int64.add_assoc c b x
theorem k2 (c b x : Int64) : (c + b) - x = c + (b - x) := by
  obtain ⟨c, rfl⟩ := oI c
  obtain ⟨b, rfl⟩ := oI b
  obtain ⟨x, rfl⟩ := oI x
  rw [← Int64.ofInt_add, ← Int64.ofInt_sub, ← Int64.ofInt_sub, ← Int64.ofInt_add]
  congr 1
  omega
theorem CK.promises (h : CK σ τ K np ne bl na hh od) (h0 : τ.1 207 = 0) {d : Int32} (hd : DayOk d) (C : Int64) : ∀ σ' τ', Rm σ σ' → Rx τ τ' → ∃ B σ1 τ1, M_value_L42 100000 σ' C d 0 = some (C + B, σ1) ∧ Rm σ σ1 ∧ Cn_promises τ' d = some (B, τ1) ∧ Rx τ τ1 := by
  have h24 : np ≤ 24 := h.1.1.1.1
  have hd1 : -1 ≤ d.toInt ∧ d.toInt ≤ 10000 := by unfold DayOk at hd; omega
  have hd2 : d.toInt ≤ 9999 := by unfold DayOk at hd; omega
  have key : ∀ (n i fu fu' : Nat) (σ' : MS) (τ' : XS) (B : Int64), i + n = np → n < fu → n < fu' → Rm σ σ' → Rx τ τ' → ∃ B' σ1 τ1, M_value_L42_r fu σ' (C + B) d (nI i) = some (C + B', σ1) ∧ Rm σ σ1 ∧ Cn_promises_L5_r fu' τ' d B (nI i) = some (B', τ1) ∧ Rx τ τ1 := by
    intro n
    induction n with
    | zero =>
      intro i fu fu' σ' τ' B hi hf hf' hm hx
      obtain ⟨f, rfl, -⟩ := fuel hf
      obtain ⟨f', rfl, -⟩ := fuel hf'
      have hi : i = np := by omega
      subst hi
      exact ⟨B, σ', τ', by rw [M_value_L42_r, hm.1 1 (by decide) (by decide) (by decide), h.1.1.1.2.1, if_pos (Int32.le_refl _)], hm, by rw [Cn_promises_L5_r, hx.1 104 (by decide) (by decide) (by decide), h.1.1.1.2.2.1, if_pos (Int32.le_refl _)], hx⟩
    | succ n ih =>
      intro i fu fu' σ' τ' B hi hf hf' hm hx
      obtain ⟨f, rfl, hf2⟩ := fuel hf
      obtain ⟨f', rfl, hf2'⟩ := fuel hf'
      have hin : i < np := by omega
      have nx := fun σ' τ' B hm hx => ih (i + 1) f f' σ' τ' B (by omega) (by omega) (by omega) hm hx
      obtain ⟨lv, l0, l1, l2⟩ := h.1.lives hin d
      obtain ⟨v, v0, v1, -, v3⟩ := h.1.std hin d
      obtain ⟨r, hr, w1, w2⟩ := h.widow hin hd2
      obtain ⟨a, ha, a1, a2⟩ := h.1.age99 hin hd
      have l2' : Lv_livesOn τ' (nI i) d = some lv := l2 τ' hx
      have v1' : M_isMember σ' (nI i) d = some (if v = 1 then 1 else 0) := v1 σ' hm
      have v3' : Lv_standing τ' (nI i) d = some v := v3 τ' hx
      have a2' : Bk_ageOn τ' (nI i) d = some (nI a) := a2 τ' hx
      have w2' : Cn_deadHusband τ' (nI i) d = some r := w2 τ' hx
      rw [M_value_L42_r, hm.1 1 (by decide) (by decide) (by decide), h.1.1.1.2.1, if_neg (nI_ge (by omega) (by omega)), v1', bind_so, Cn_promises_L5_r, hx.1 104 (by decide) (by decide) (by decide), h.1.1.1.2.2.1, if_neg (nI_ge (by omega) (by omega)), l2', bind_so, a2', bind_so, v3', bind_so, w2', bind_so]
      unfold Cn_promises_J169
      rw [nI_1]
      have noW : ∀ σ' τ' B, Rm σ σ' → Rx τ τ' → r = -1 → ∃ B' σ1 τ1, M_value_J176 (M_value_L42_r f) σ' (C + B) d (nI i) = some (C + B', σ1) ∧ Rm σ σ1 ∧ Cn_promises_L5_r f' τ' d B (nI (i + 1)) = some (B', τ1) ∧ Rx τ τ1 := by
        intro σ' τ' B hm hx er
        obtain ⟨σ1, q1, q2⟩ := w1 σ' hm
        have q1' : M_widowOf σ' (nI i) d = some (r, σ1) := q1
        unfold M_value_J176 M_value_J212
        rw [q1', bind_pq, if_pos er, nI_1]
        exact nx σ1 τ' B q2 hx
      rcases l0 with rfl | rfl
      · have m0 : M_isMember σ (nI i) d = some 0 := h.1.dead hin (l1 σ (Rm.refl σ))
        have e0 : M_isMember σ (nI i) d = some (if v = 1 then 1 else 0) := v1 σ (Rm.refl σ)
        rw [m0] at e0
        have r0 : Cn_deadHusband τ (nI i) d = some (-1) := h.deadW hin (l2 τ (Rx.refl τ))
        have e1 : Cn_deadHusband τ (nI i) d = some r := w2 τ (Rx.refl τ)
        rw [r0] at e1
        rw [← Option.some.inj e0, if_pos rfl, if_pos rfl]
        exact noW σ' τ' B hm hx (Option.some.inj e1).symm
      rw [if_neg n10]
      by_cases c : v = 1
      case neg =>
        rw [if_neg c, if_pos rfl, if_neg c]
        by_cases cr : r = -1
        · rw [if_pos cr]
          exact noW σ' τ' B hm hx cr
        rw [if_neg cr]
        obtain ⟨u, -, u1, u2, -⟩ := h.rent hin hd2
        obtain ⟨σ1, q1, q2⟩ := w1 σ' hm
        have q1' : M_widowOf σ' (nI i) d = some (r, σ1) := q1
        obtain ⟨σ2, z1, z2⟩ := u1 σ1 q2
        have z1' : M_rentOn σ1 (nI i) d = some (u, σ2) := z1
        have a1' : M_ageOf σ2 (nI i) d = some (nI a) := a1 σ2 z2
        obtain ⟨wv, x1, x2⟩ := h.1.worth u ha
        have x1' : M_worthOf σ2 u.toInt64 (nI a) = some wv := x1 σ2 z2
        obtain ⟨τ2, y1, y2⟩ := u2 τ' hx
        have y1' : Cn_yearlyRent τ' (nI i) d = some (u.toInt64, τ2) := y1
        have x2' : Tb_worthOf τ2 u (nI a) = some wv := x2 τ2 y2
        unfold M_value_J176 M_value_J212
        rw [q1', bind_pq, if_neg cr, z1', bind_pq, a1', bind_so, x1', bind_so, y1', bind_pq, Int32.toInt32_toInt64, x2', bind_so, k2, nI_1]
        exact nx σ2 τ2 _ z2 y2
      -- a member
      rw [if_pos c, if_neg n10, if_pos c]
      have er : r = -1 := by
        rcases hr with g | ⟨-, s1, -⟩
        · exact g
        · have m0 := h.1.woman hin s1 d
          have e0 : M_isMember σ (nI i) d = some (if v = 1 then 1 else 0) := v1 σ (Rm.refl σ)
          rw [m0, if_pos c] at e0
          exact absurd e0 (by decide)
      obtain ⟨w, u, -, -, c1, c2, -, -, c3⟩ := h.1.comes 0 (p0 := nI i) (d := d) (Or.inr ⟨i, hin, rfl⟩) hd1
      have eu := c3 h0
      subst eu
      obtain ⟨w', u', -, -, d1, d2, -, -, d3⟩ := h.1.comes 1 (p0 := nI i) (d := d) (Or.inr ⟨i, hin, rfl⟩) hd1
      have eu' := d3 h0
      subst eu'
      obtain ⟨σ1, q1, q2⟩ := c1 σ' hm
      have q1' : M_ruled σ' 0 (nI i) d d = some (u, σ1) := q1
      obtain ⟨τ1, y1, y2⟩ := c2 τ' hx
      have y1' : Cn_comesTo τ' 0 (nI i) d = some (u, τ1) := y1
      have a1' : M_ageOf σ1 (nI i) d = some (nI a) := a1 σ1 q2
      obtain ⟨wv, x1, x2⟩ := h.1.worth u ha
      have x1' : M_worthOf σ1 u.toInt64 (nI a) = some wv := x1 σ1 q2
      have x2' : Tb_worthOf τ1 u (nI a) = some wv := x2 τ1 y2
      obtain ⟨m, m0, m1, m2⟩ := h.1.wedTo hin d
      have m1' : M_wedTo σ1 (nI i) d = some m := m1 σ1 q2
      have m2' : Lv_wedTo τ1 (nI i) d = some m := m2 τ1 y2
      rw [q1', bind_pq, a1', bind_so, x1', bind_so, m1', bind_so, y1', bind_pq, x2', bind_so, m2', bind_so]
      rcases m0 with rfl | ⟨q, hq, rfl⟩
      · rw [if_pos rfl, if_neg m1_lt0]
        unfold M_value_J158 M_value_J174
        rw [if_pos (show lg_cmp 0 0 ≤ 0 by decide), Int64.sub_zero, k1]
        exact noW σ1 τ1 _ q2 y2 er
      rw [if_neg (nI_ne_m1 (by omega)), if_pos (nI_le0 (by omega))]
      obtain ⟨b, hb, b1, b2⟩ := h.1.age99 hq hd
      obtain ⟨σ2, z1, z2⟩ := d1 σ1 q2
      have z1' : M_ruled σ1 1 (nI i) d d = some (u', σ2) := z1
      obtain ⟨σ3, z3, z4⟩ := d1 σ2 z2
      have z3' : M_ruled σ2 1 (nI i) d d = some (u', σ3) := z3
      obtain ⟨τ2, t1, t2⟩ := d2 τ1 y2
      have t1' : Cn_comesTo τ1 1 (nI i) d = some (u', τ2) := t1
      have b1' : M_ageOf σ2 (nI q) d = some (nI b) := b1 σ2 z2
      have b2' : Bk_ageOn τ2 (nI q) d = some (nI b) := b2 τ2 t2
      have a1'' : M_ageOf σ3 (nI i) d = some (nI a) := a1 σ3 z4
      obtain ⟨g1, x3, x4⟩ := h.1.worth u' hb
      obtain ⟨g2, x5, x6⟩ := h.1.worth u' ha
      have x3' : M_worthOf σ2 u'.toInt64 (nI b) = some g1 := x3 σ2 z2
      have x5' : M_worthOf σ3 u'.toInt64 (nI a) = some g2 := x5 σ3 z4
      have x4' : Tb_worthOf τ2 u' (nI b) = some g1 := x4 τ2 t2
      have x6' : Tb_worthOf τ2 u' (nI a) = some g2 := x6 τ2 t2
      rw [z1', bind_pq, b1', bind_so, x3', bind_so, z3', bind_pq, a1'', bind_so, x5', bind_so, t1', bind_pq, b2', bind_so, x4', bind_so, x6', bind_so]
      unfold M_value_J158 M_value_J174 mxJ
      generalize g1 - g2 = g
      by_cases cg : lg_cmp g 0 ≤ 0
      · have cg' := (lg_cmp_le _ _).mp cg
        rw [if_pos cg, Int64.sub_zero, k1]
        by_cases ch : g < 0
        · rw [if_pos ch, Int64.sub_zero]
          exact noW σ3 τ2 _ z4 t2 er
        · have e0 : g = 0 := by
            rw [Int64.le_iff_toInt_le] at cg'
            rw [Int64.lt_iff_toInt_lt] at ch
            exact Int64.toInt_inj.mp (by omega)
          rw [if_neg ch, e0, Int64.sub_zero]
          exact noW σ3 τ2 _ z4 t2 er
      · have cg' : ¬ g < 0 := fun e => cg ((lg_cmp_le _ _).mpr (Int64.le_of_lt e))
        rw [if_neg cg, if_neg cg', k1, k2]
        exact noW σ3 τ2 _ z4 t2 er
  intro σ' τ' hm hx
  obtain ⟨B, σ1, τ1, e1, e2, e3, e4⟩ := key np 0 100000 100000 σ' τ' 0 (by omega) (by omega) (by omega) hm hx
  rw [Int64.add_zero] at e1
  exact ⟨B, σ1, τ1, e1, e2, e3, e4⟩
end VALUE
theorem st37 : St37 (InvA ActI) := by
  intro σ τ xs i h
  have same : InvA ActI σ τ := h
  obtain ⟨np, ne, bl, hP, hB, hM, ha⟩ := h
  generalize xs (i + 1) = p1
  generalize xs (i + 2) = p2
  unfold W_value M_value
  rw [Bk_isReach_eq hB.2.2.1, M_isBy_eq hB.2.1, W_isYear_eq, M_isYear_eq]
  simp only [bind_so, b01_if]
  by_cases cy : 0 ≤ p1 ∧ p1 ≤ 99
  case neg =>
    rw [if_neg cy, if_neg cy]
    exact ⟨_, _, _, rfl, rfl, same⟩
  rw [if_pos cy, if_pos cy]
  obtain ⟨Y, hY, rfl⟩ := inRn (k := p1) (n := 99) ⟨i32_le.mp cy.1, i32_le.mp cy.2⟩ (by decide)
  by_cases c1 : -1 ≤ p2 ∧ p2 ≤ nI ne
  case neg =>
    rw [if_neg c1, if_neg c1]
    exact ⟨_, _, _, rfl, rfl, same⟩
  rw [if_pos c1, if_pos c1]
  obtain ⟨na, hh, od, cb⟩ := InvA.cb hP hB hM ha
  obtain ⟨K, σl, τl, τ1, q1, q2, ck, hx, sM, sX⟩ := cb.look c1
  have h207 : τl.1 207 = 0 := by
    rw [sX.1 207 (by decide) (by decide) (by decide)]
    exact hM.2.2.2.2.2.2.2.2.2.2.2.2.2.2.2.2.2.1
  obtain ⟨v, v1, v2⟩ := ck.chest (Y := Y) (by omega)
  obtain ⟨σ2, y1, y2⟩ := v1 σl (Rm.refl σl)
  have y1' : M_chestBehind σl (nI Y) = some (v, σ2) := y1
  obtain ⟨τ2, z1, z2⟩ := v2 τ1 hx
  have z1' : Cn_chestBehind τ1 (nI Y) = some (v, τ2) := z1
  have ed : ((nI Y * 100) + 100) - 1 = nI (100 * Y + 99) := by rw [yd, show (100 : Int32) = nI 100 from rfl, nI_add, nI_pred]
  have ed' : (100 * nI Y) + 99 = nI (100 * Y + 99) := by rw [yd', show (99 : Int32) = nI 99 from rfl, nI_add]
  obtain ⟨B, σ3, τ3, e1, e2, e3, e4⟩ := ck.promises h207 (d := nI (100 * Y + 99)) (by unfold DayOk; rw [nI_i (by omega)]; omega) v σ2 τ2 y2 z2
  rw [q1, q2, bind_pq, bind_pq, y1', z1', bind_pq, bind_pq, ed, ed', e1, e3, bind_pq]
  exact ⟨_, _, _, rfl, rfl, same.same ActI_stb (sM.trans e2.same) (sX.trans e4.same)⟩
