/-! the act that is tried is dropped again -/
theorem drop_loop {na : Nat} (hna : na ≤ 8) : ∀ (rest : List Nat) (i fu : Nat) (τ : XS) (pre : List Nat), i + rest.length = na + 1 → rest.length < fu → pre.length ≤ i → τ.1 302 = nI (na + 1) → (∀ x, x ∈ rest → x < na + 1) → (∀ (k : Nat) (q : k < pre.length), τ.2.1 303 k = nI pre[k]) → (∀ (k : Nat) (q : k < rest.length), τ.2.1 303 (i + k) = nI rest[k]) → ∃ f, Lw_dropLastAct_L13_r fu τ (nI pre.length) (nI i) = some ((), xR (xI (xA τ 303 f) 302 (nI na)) (va_up τ.2.2.2.2.1 na none)) ∧ ∀ (k : Nat) (q : k < (pre ++ rest.filter (fun x => x ≠ na)).length), f k = nI (pre ++ rest.filter (fun x => x ≠ na))[k] := by
  intro rest
  have n1 : nI (na + 1) - 1 = nI na := by rw [← nI_1, Int32.add_sub_cancel]
  induction rest with
  | nil =>
    intro i fu τ pre hi hf hp h302 hb h1 h2
    obtain ⟨f, rfl, -⟩ := fuel hf
    have e1 : (xI τ 302 (nI na)).1 302 = nI na := xI_get
    refine ⟨τ.2.1 303, ?_, fun k q => ?_⟩
    · rw [Lw_dropLastAct_L13_r, h302, if_pos (by rw [show i = na + 1 by simpa using hi]; exact Int32.le_refl _), n1, e1, wr_nI (by omega) (by decide), cl_nI (by omega), xA_self]
      rfl
    · have q' : k < pre.length := by simpa using q
      rw [h1 k q']
      congr 1
      simp
  | cons x rest ih =>
    intro i fu τ pre hi hf hp h302 hb h1 h2
    obtain ⟨f, rfl, hf2⟩ := fuel hf
    simp only [List.length_cons] at hi hf2
    have xb := hb x (by simp)
    have hx : τ.2.1 303 i = nI x := by
      have := h2 0 (by simp)
      rwa [Nat.add_zero] at this
    rw [Lw_dropLastAct_L13_r, h302, if_neg (nI_ge (by omega) (by omega)), n1]
    rw [rd_nI (show i < 9 by omega) (by decide), hx]
    by_cases c : x = na
    · rw [if_pos (by rw [c])]
      unfold Lw_dropLastAct_J51
      rw [nI_1]
      obtain ⟨g, u1, u2⟩ := ih (i + 1) f τ pre (by omega) (by omega) (by omega) h302 (fun y hy => hb y (by simp [hy])) h1 (fun k q => by
        have := h2 (k + 1) (by simp; omega)
        rw [show i + (k + 1) = i + 1 + k by omega] at this
        exact this)
      have ef : (x :: rest).filter (fun x => decide (x ≠ na)) = rest.filter (fun x => decide (x ≠ na)) := by rw [List.filter_cons]; simp [c]
      refine ⟨g, u1, ?_⟩
      rw [ef]; exact u2
    · rw [if_neg (fun g => c ((nI_eq (by omega) (by omega)).mp g)), rd_nI (show i < 9 by omega) (by decide), hx, wr_nI (show pre.length < 9 by omega) (by decide), cl_nI (by omega)]
      unfold Lw_dropLastAct_J51
      rw [nI_1, nI_1]
      have el : pre.length + 1 = (pre ++ [x]).length := by rw [List.length_append, List.length_singleton]
      rw [el]
      obtain ⟨g, u1, u2⟩ := ih (i + 1) f (xA τ 303 (upd (τ.2.1 303) pre.length (nI x))) (pre ++ [x]) (by omega) (by omega) (by rw [← el]; omega) h302 (fun y hy => hb y (by simp [hy])) (fun k q => by
        rw [xA_get]
        rw [← el] at q
        by_cases e : k = pre.length
        · subst e; rw [upd_at]; congr 1; simp
        · rw [upd_no e, h1 k (by omega), List.getElem_append_left]) (fun k q => by
        rw [xA_get, upd_no (by omega)]
        have := h2 (k + 1) (by simp; omega)
        rw [show i + (k + 1) = i + 1 + k by omega] at this
        exact this)
      have ef : (x :: rest).filter (fun x => decide (x ≠ na)) = x :: rest.filter (fun x => decide (x ≠ na)) := by rw [List.filter_cons]; simp [c]
      refine ⟨g, by rw [u1, xA_same]; rfl, ?_⟩
      rw [ef]
      intro k q
      have := u2 k (by simpa using q)
      rw [this]
      congr 1
      simp
theorem drop_spec {na : Nat} {τ : XS} {od : List Nat} (hna : na ≤ 8) (h302 : τ.1 302 = nI (na + 1)) (hl : od.length = na + 1) (ho : ∀ (k : Nat) (q : k < od.length), τ.2.1 303 k = nI od[k]) (hn : od.Nodup) (hm : ∀ a, a ∈ od ↔ a < na + 1) : ∃ f, Lw_dropLastAct τ = some ((), xR (xI (xA τ 303 f) 302 (nI na)) (va_up τ.2.2.2.2.1 na none)) ∧ (od.filter (fun x => x ≠ na)).length = na ∧ (∀ (k : Nat) (q : k < (od.filter (fun x => x ≠ na)).length), f k = nI (od.filter (fun x => x ≠ na))[k]) ∧ (od.filter (fun x => x ≠ na)).Nodup ∧ (∀ a, a ∈ od.filter (fun x => x ≠ na) ↔ a < na) := by
  obtain ⟨f, g1, g2⟩ := drop_loop hna od 0 100000 τ [] (by omega) (by omega) (Nat.le_refl _) h302 (fun x hx => (hm x).mp hx) (fun k q => absurd q (Nat.not_lt_zero _)) (fun k q => by rw [Nat.zero_add]; exact ho k q)
  have nd : (od.filter (fun x => decide (x ≠ na))).Nodup := List.Nodup.sublist List.filter_sublist hn
  have mm : ∀ a, a ∈ od.filter (fun x => decide (x ≠ na)) ↔ a < na := by
    intro a
    rw [List.mem_filter, hm]
    simp
    omega
  refine ⟨f, ?_, ?_, fun k q => ?_, nd, mm⟩
  · unfold Lw_dropLastAct Lw_dropLastAct_L13
    rw [h302, if_pos (show (1 : Int32) ≤ nI (na + 1) from (nI_leI (a := 1) (by decide) (by omega)).mpr (by omega))]
    exact g1
  · have := (perm_of nd List.nodup_range (fun a => by rw [mm, List.mem_range] : ∀ a, a ∈ od.filter (fun x => decide (x ≠ na)) ↔ a ∈ List.range na)).length_eq
    rw [this, List.length_range]
  · have := g2 k (by simpa using q)
    rw [this]
    congr 1
theorem st43 : St43 (InvA ActI) := by
  intro σ τ xs i h
  have same : InvA ActI σ τ := h
  obtain ⟨np, ne, bl, hP, hB, hM, na, hh, od, a1, a2, a3, a4, a5, a6, a7, a8, a9⟩ := h
  have h50 : σ.1 50 = 0 := hM.2.2.2.2.2.2.2.2.2.2.2.2.2.2.2.2.2.2
  have hM' := hM
  obtain ⟨⟨nt, t1, t2, t3⟩, m2, m3, -⟩ := hM'
  generalize xs (i + 1) = p
  generalize xs (i + 2) = y
  unfold W_tried M_tried
  rw [W_isDay_eq, M_isDay_eq, W_isYear_eq, M_isYear_eq]
  simp only [bind_so, b01_if]
  by_cases c : 0 ≤ p ∧ p ≤ 9999
  case neg =>
    rw [if_neg c]
    by_cases cy : 0 ≤ y ∧ y ≤ 99
    · rw [if_pos cy, if_neg c]; exact ⟨_, _, _, rfl, rfl, same⟩
    · rw [if_neg cy, if_neg c]; exact ⟨_, _, _, rfl, rfl, same⟩
  by_cases cy : 0 ≤ y ∧ y ≤ 99
  case neg =>
    rw [if_neg cy, if_pos c, if_neg cy]
    exact ⟨_, _, _, rfl, rfl, same⟩
  rw [if_pos cy, if_pos c, if_pos c, if_pos cy, a2]
  obtain ⟨Y, hY, rfl⟩ := inRn (k := y) (n := 99) ⟨i32_le.mp cy.1, i32_le.mp cy.2⟩ (by decide)
  have hp : DayOk p := by
    have c1 := i32_le.mp c.1
    have c2 := i32_le.mp c.2
    rw [show (0 : Int32).toInt = 0 from rfl] at c1
    rw [show (9999 : Int32).toInt = 9999 from rfl] at c2
    exact ⟨c1, by omega⟩
  obtain ⟨h, τs, s1, sp, s2, s3⟩ := spare_of a1 (fun a ha => (a3.2.2.1 a ha).2) a5 a7 a8 a9
  obtain ⟨p1, p2, p3, p4, p5, p6, p7, p8⟩ := sp
  have hT : TpOK nt (σ.2.1 14) := ⟨t1, m3⟩
  rw [s1, bind_pq]
  rcases act_top (a := na) (h := h) (n := nt) (σ := σ) (τ := τs) (by omega) p6 t1 t2 (by rw [p1]; exact t3) (by rw [p2]; exact m2) m3 with ⟨k', σ', τ', r1, r2, r3, r4, r5, r6⟩ | ⟨nc, cd, σ', τ', r1, r2, r3, r4, r5, r6, r7, r8, r9, r10, r11, r12, r13, r14⟩
  · rw [r2, r5, bind_pq, bind_pq, if_pos rfl, if_neg (nI_not_lt0 (by omega))]
    obtain ⟨f1, f2, f3, f4, f5, f6⟩ := r3
    obtain ⟨q1, q2, q3, q4, q5, q6, q7⟩ := r6
    refine ⟨_, _, _, rfl, rfl, np, ne, bl, ?_⟩
    obtain ⟨sM, sX⟩ := mix_same (σ := σ) (σ' := sI σ' 15 0) (τ := τ) (τ' := xI τ' 701 0) (fun j b1 _ _ b4 b5 b6 => (sI_ne b1).trans (f1 j b4 b5 b6)) (fun r b1 _ _ _ => f2 r (by omega) (by omega) (by omega) (by omega) (by omega) (by omega) (by omega) (by omega)) f6 (fun j b1 b2 b3 b4 _ _ _ => (xI_ne b2).trans ((q1 j b3 b4).trans (by rw [p1]))) (fun r _ b2 _ _ _ _ _ _ _ => (q2 r b2).trans (by rw [p2])) (q3.trans p3)
    refine ⟨hP.mix.same sM sX, hB.mix.same sM sX, (hM.mix (nt := 0) (by decide) sI_get xI_get).same sM sX, na, hh, od, a1, ((sI_ne (by decide)).trans (f1 16 (by decide) (by decide) (by decide))).trans a2, ?_, a4, ?_, ?_, ?_, ?_, ?_⟩
    · exact acts_kept a3 a1 s3 (f2 17 (by decide) (by decide) (by decide) (by decide) (by decide) (by decide) (by decide) (by decide)) f3 f4 f5 (fun x hx => (q7 x hx).trans (p8 x hx)) ((xI_ne (by decide)).trans ((q1 302 (by decide) (by decide)).trans (by rw [p1]))) ((q2 303 (by decide)).trans (by rw [p2])) (q5.trans p4) (by show nA τ ≤ nA τ'; rw [q4]; exact p7)
    · intro s hs
      have : some h = some s := by rw [← p5, ← q6]; exact hs
      cases this
      exact ⟨by show h < nA τ'; rw [q4]; exact p6, s3⟩
    · intro a b1 b2
      show τ'.2.2.2.2.1 a = none
      rw [q5, p4]; exact a6 a b1 b2
    · intro j x hx
      have : τ.2.2.2.2.1 j = some x := by rw [← p4, ← q5]; exact hx
      have := a7 j x this
      show x < nA τ'
      rw [q4]; omega
    · show nA τ' ≤ na + 1
      rw [q4]; exact s2
    · intro g
      have : τ'.2.2.2.2.2.1 = none := g
      rw [q6, p5] at this
      cases this
  · have e16 : (sI σ' 15 0).1 16 = nI na := ((sI_ne (by decide)).trans (r3.1 16 (by decide) (by decide) (by decide))).trans a2
    have f17 : σ'.2.1 17 = σ.2.1 17 := r3.2.1 17 (by decide) (by decide) (by decide) (by decide) (by decide) (by decide) (by decide) (by decide)
    have Da : ∀ a, a < na → upd (σ'.2.1 17) na p a = σ.2.1 17 a := fun a ha => by rw [upd_no (by omega), f17]
    obtain ⟨f, od', u1, u2, u3, u4, u5, u6⟩ := addAct_spec (na := na) (h := h) (D := upd (σ'.2.1 17) na p) (τ := xI τ' 701 0) (hh := hh) (od := od) a1 ((xI_ne (by decide)).trans ((r5.1 302 (by decide) (by decide)).trans (by rw [p1]; exact a3.2.1))) (by show h < nA τ'; rw [r5.2.2.2.1]; exact p6) (fun a ha => ⟨by show τ'.2.2.2.2.1 a = _; rw [r5.2.2.2.2.1, p4]; exact (a3.2.2.1 a ha).1, by show hh a < nA τ'; rw [r5.2.2.2.1]; have := (a3.2.2.1 a ha).2; omega, s3 a ha⟩) a3.2.2.2.1 (fun k q => by show τ'.2.1 303 k = _; rw [r5.2.1 303 (by decide), p2]; exact a3.2.2.2.2.1 k q) (List.Pairwise.imp_of_mem (fun {x y} hx hy hxy => by
        unfold ltD at hxy ⊢
        rw [Da x ((a3.2.2.2.2.2.2.2.1 x).mp hx), Da y ((a3.2.2.2.2.2.2.2.1 y).mp hy)]
        exact hxy) a3.2.2.2.2.2.2.1) a3.2.2.2.2.2.2.2.1 (fun a ha => by
        rw [Da a ha]
        have : tF (xI τ' 701 0) (hh a) 0 = tF τ (hh a) 0 := by
          show (τ'.2.2.2.2.2.2 (hh a)).1 0 = (τ.2.2.2.2.2.2 (hh a)).1 0
          rw [r5.2.2.2.2.2.2 _ (s3 a ha), p8 _ (s3 a ha)]
        rw [this]; exact (a3.2.2.2.2.2.2.2.2 a ha).1)
    rw [upd_at] at u1
    rw [r2, r4, bind_pq, bind_pq, if_neg n10, if_pos (show (-1 : Int32) < 0 by decide), u1, bind_pq, e16, wr_nI (by omega) (by decide), cl_nI (by omega)]
    obtain ⟨σF, hF⟩ : ∃ s, s = sI (sA (sI σ' 15 0) 17 (upd ((sI σ' 15 0).2.1 17) na p)) 50 1 := ⟨_, rfl⟩
    obtain ⟨τF, hX⟩ : ∃ t, t = xI (xR (xA (xTI (xI τ' 701 0) h 0 p) 303 f) (va_up (xI τ' 701 0).2.2.2.2.1 na (some h))) 302 (nI (na + 1)) := ⟨_, rfl⟩
    rw [← hF, ← hX]
    have X302 : τF.1 302 = nI (na + 1) := by rw [hX]; show (va_up (xI τ' 701 0).1 302 (nI (na + 1))) 302 = _; exact va_up_self _ _ _
    obtain ⟨f1, f2, f3, f4, f5, f6⟩ := id r3
    obtain ⟨q1, q2, q3, q4, q5, q6, q7⟩ := id r5
    have M1 : ∀ j, j ≠ 15 → j ≠ 50 → σF.1 j = σ'.1 j := fun j b1 b2 => by rw [hF, sI_ne b2, sA_1, sI_ne b1]
    have M2 : ∀ r, r ≠ 17 → σF.2.1 r = σ'.2.1 r := fun r b => by rw [hF, sI_2, sA_ne b, sI_2]
    have M17 : σF.2.1 17 = upd (σ'.2.1 17) na p := by rw [hF, sI_2, sA_get, sI_2]
    have M50 : σF.1 50 = 1 := by rw [hF]; exact sI_get
    have X1 : ∀ j, j ≠ 302 → j ≠ 701 → τF.1 j = τ'.1 j := fun j b1 b2 => by
      rw [hX]
      exact (xI_ne b1).trans (xI_ne b2)
    have X2 : ∀ r, r ≠ 303 → τF.2.1 r = τ'.2.1 r := fun r b => by rw [hX]; exact xA_ne b
    have X303 : τF.2.1 303 = f := by rw [hX]; show (va_up τ'.2.1 303 f) 303 = _; exact va_up_self _ _ _
    have XN : nA τF = nA τ' := by rw [hX]; rfl
    have XR' : τF.2.2.2.2.1 = va_up τ.2.2.2.2.1 na (some h) := by
      have : τF.2.2.2.2.1 = va_up τ'.2.2.2.2.1 na (some h) := by rw [hX]; rfl
      rw [this, q5, p4]
    have XP' : τF.2.2.2.2.2.1 = some h := by
      have : τF.2.2.2.2.2.1 = τ'.2.2.2.2.2.1 := by rw [hX]; rfl
      rw [this, q6, p5]
    have XT : τF.2.2.2.2.2.2 = (xTI τ' h 0 p).2.2.2.2.2.2 := by rw [hX]; rfl
    have XL : τF.2.2.1 = τ.2.2.1 := by
      have : τF.2.2.1 = τ'.2.2.1 := by rw [hX]; rfl
      rw [this, q3, p3]
    have F15 : σF.1 15 = nI 0 := by rw [hF, sI_ne (by decide), sA_1, sI_get]; rfl
    have F16 : σF.1 16 = nI na := by rw [M1 16 (by decide) (by decide)]; exact (f1 16 (by decide) (by decide) (by decide)).trans a2
    have X701 : τF.1 701 = nI 0 := by rw [hX]; show (va_up (va_up τ'.1 701 0) 302 (nI (na + 1))) 701 = _; rw [va_up_ne _ _ (by decide), va_up_self]; rfl
    have FL : σF.2.2 = σ.2.2 := by rw [hF]; exact f6
    -- with the act tried
    obtain ⟨sM, sX⟩ := mix_same (σ := σ) (σ' := sI σF 50 0) (τ := τ) (τ' := τF) (fun j b1 b2 _ b4 b5 b6 => by
      by_cases c50 : j = 50
      · rw [c50, sI_get, h50]
      · rw [sI_ne c50, M1 j b1 c50]; exact f1 j b4 b5 b6) (fun r b1 _ _ _ => (M2 r (by omega)).trans (f2 r (by omega) (by omega) (by omega) (by omega) (by omega) (by omega) (by omega) (by omega))) FL (fun j b1 b2 b3 b4 _ _ _ => (X1 j b1 b2).trans ((q1 j b3 b4).trans (by rw [p1]))) (fun r b1 b2 _ _ _ _ _ _ _ => (X2 r b1).trans ((q2 r b2).trans (by rw [p2]))) XL
    have P1 : PplI (sI σF 50 0) τF np := hP.mix.same sM sX
    have B1 : BkI (sI σF 50 0) τF np ne bl := hB.mix.same sM sX
    have M0 : MisI (sI σF 50 0) τF np := (hM.mix (nt := 0) (by decide) ((sI_ne (by decide)).trans F15) X701).same sM sX
    have nmE : nmM (sI σF 50 0) = nmM σF := by
      unfold nmM sI sA
      simp only [va_up_up]
    have A1 : ActsR σF τF (na + 1) (fun a => if a = na then h else hh a) od' := acts_more a3 a1 s3 r3 hT hp r1 r6 r7 r8 r9 r10 r11 r12 r13 r14 M17 M2 X302 X303 XR' (by rw [XN, q4]; exact p7) (by rw [XN, q4]; exact p6) (fun x hx => by rw [XT, TI_o hx, q7 x hx, p8 x hx]) (fun j hj => by
        have : tF τF h j = tF (xTI τ' h 0 p) h j := by unfold tF; rw [XT]
        rw [this, TI_Fn hj]) (by
        have : tF τF h 0 = tF (xTI τ' h 0 p) h 0 := by unfold tF; rw [XT]
        rw [this, TI_F]) (fun j => by
        have : tA τF h j = tA (xTI τ' h 0 p) h j := by unfold tA; rw [XT]
        rw [this, TI_A]) u2 u3 u4 u5 u6
    have cb : CB σF τF np ne bl (na + 1) (fun a => if a = na then h else hh a) od' := ⟨P1, B1, by rw [← nmE]; exact M0.nm, A1, by rw [F16, M50]; exact nI_1 na, M0.stepV⟩
    obtain ⟨K, σl, τl, τ1, w1, w2, ck, hx, lM, lX⟩ := cb.look (e := -1) (reach_m1 hB.1)
    obtain ⟨v, v1, v2⟩ := ck.chest (Y := Y) (by omega)
    obtain ⟨σ2, y1, y2⟩ := v1 σl (Rm.refl σl)
    have y1' : M_chestBehind σl (nI Y) = some (v, σ2) := y1
    obtain ⟨τ2, z1, z2⟩ := v2 τ1 hx
    have z1' : Cn_chestBehind τ1 (nI Y) = some (v, τ2) := z1
    have sM2 : SameM σF σ2 := lM.trans y2.same
    have sX2 : SameX τF τ2 := lX.trans z2.same
    obtain ⟨g, d1, d2, d3, d4, d5⟩ := drop_spec (τ := τ2) (od := od') a1 ((sX2.1 302 (by decide) (by decide) (by decide)).trans X302) u2 (fun k q => by rw [sX2.2.1 303 (by decide) (by decide) (by decide) (by decide) (by decide) (by decide) (by decide), X303]; exact u3 k q) u4 u6
    rw [w1, w2, bind_pq, bind_pq, y1', z1', bind_pq, bind_pq, d1, bind_pq]
    obtain ⟨τG, hG⟩ : ∃ t, t = xR (xI (xA τ2 303 g) 302 (nI na)) (va_up τ2.2.2.2.2.1 na none) := ⟨_, rfl⟩
    rw [← hG]
    have G302 : τG.1 302 = nI na := by rw [hG]; show (va_up τ2.1 302 (nI na)) 302 = _; exact va_up_self _ _ _
    have G1 : ∀ j, j ≠ 302 → τG.1 j = τ2.1 j := fun j b => by rw [hG]; exact xI_ne b
    have G2 : ∀ r, r ≠ 303 → τG.2.1 r = τ2.2.1 r := fun r b => by rw [hG]; exact xA_ne b
    have G303 : τG.2.1 303 = g := by rw [hG]; show (va_up τ2.2.1 303 g) 303 = _; exact va_up_self _ _ _
    have GR : τG.2.2.2.2.1 = va_up (va_up τ.2.2.2.2.1 na (some h)) na none := by
      have : τG.2.2.2.2.1 = va_up τ2.2.2.2.2.1 na none := by rw [hG]; rfl
      rw [this, sX2.2.2, XR']
    have GN : nA τG = nA τ' := by
      have : nA τG = nA τ2 := by rw [hG]; rfl
      have e2 : nA τ2 = nA τF := by unfold nA; rw [sX2.2.2]
      rw [this, e2, XN]
    have GP : τG.2.2.2.2.2.1 = some h := by
      have : τG.2.2.2.2.2.1 = τ2.2.2.2.2.2.1 := by rw [hG]; rfl
      rw [this, sX2.2.2, XP']
    have GT : τG.2.2.2.2.2.2 = (xTI τ' h 0 p).2.2.2.2.2.2 := by
      have : τG.2.2.2.2.2.2 = τ2.2.2.2.2.2.2 := by rw [hG]; rfl
      rw [this, sX2.2.2, XT]
    have GL : τG.2.2.1 = τ.2.2.1 := by
      have : τG.2.2.1 = τ2.2.2.1 := by rw [hG]; rfl
      rw [this, sX2.2.2, XL]
    have R2 : ∀ r, r ≠ 43 → r ≠ 44 → r ≠ 49 → (sI σ2 50 0).2.1 r = σF.2.1 r := fun r b1 b2 b3 => sM2.2.1 r b1 b2 b3
    obtain ⟨tM, tX⟩ := mix_same (σ := σ) (σ' := sI σ2 50 0) (τ := τ) (τ' := τG) (fun j b1 b2 b3 b4 b5 b6 => by
      by_cases c50 : j = 50
      · rw [c50, sI_get, h50]
      · rw [sI_ne c50, sM2.1 j b3 b4 b5 b6, M1 j b1 c50]; exact f1 j b4 b5 b6) (fun r b1 b2 b3 b4 => (R2 r b2 b3 b4).trans ((M2 r (by omega)).trans (f2 r (by omega) (by omega) (by omega) (by omega) (by omega) (by omega) (by omega) (by omega)))) (sM2.2.2.trans FL) (fun j b1 b2 b3 b4 b5 b6 b7 => (G1 j b1).trans ((sX2.1 j b5 b6 b7).trans ((X1 j b1 b2).trans ((q1 j b3 b4).trans (by rw [p1]))))) (fun r b1 b2 b3 b4 b5 b6 b7 b8 b9 => (G2 r b1).trans ((sX2.2.1 r b3 b4 b5 b6 b7 b8 b9).trans ((X2 r b1).trans ((q2 r b2).trans (by rw [p2]))))) GL
    have R17 : (sI σ2 50 0).2.1 17 = upd (σ'.2.1 17) na p := (R2 17 (by decide) (by decide) (by decide)).trans M17
    have RR : ∀ r, r ≠ 17 → r ≠ 43 → r ≠ 44 → r ≠ 49 → (sI σ2 50 0).2.1 r = σ'.2.1 r := fun r b b1 b2 b3 => (R2 r b1 b2 b3).trans (M2 r b)
    have fxG : ∀ x, x ≠ h → τG.2.2.2.2.2.2 x = τ.2.2.2.2.2.2 x := fun x hx => by rw [GT, TI_o hx, q7 x hx, p8 x hx]
    have old := acts_old (σF := sI σ2 50 0) (τF := τG) a3 a1 s3 (fun a ha => by rw [R17, Da a ha]) (fun i q => by rw [RR 18 (by decide) (by decide) (by decide) (by decide), RR 19 (by decide) (by decide) (by decide) (by decide), RR 25 (by decide) (by decide) (by decide) (by decide)]; exact f3 i q) (fun i q => by rw [RR 20 (by decide) (by decide) (by decide) (by decide), RR 21 (by decide) (by decide) (by decide) (by decide), RR 23 (by decide) (by decide) (by decide) (by decide), RR 24 (by decide) (by decide) (by decide) (by decide)]; exact f4 i q) (fun i q => by rw [RR 22 (by decide) (by decide) (by decide) (by decide)]; exact f5 i q) fxG
    refine ⟨_, _, _, rfl, rfl, np, ne, bl, hP.mix.same tM tX, hB.mix.same tM tX, (hM.mix (nt := 0) (by decide) ?_ ?_).same tM tX, na, hh, od'.filter (fun x => x ≠ na), a1, ?_, ?_, a4, ?_, ?_, ?_, ?_, ?_⟩
    · rw [sI_ne (by decide), sM2.1 15 (by decide) (by decide) (by decide) (by decide)]; exact F15
    · rw [G1 701 (by decide), sX2.1 701 (by decide) (by decide) (by decide)]; exact X701
    · rw [sI_ne (by decide), sM2.1 16 (by decide) (by decide) (by decide) (by decide)]; exact F16
    · refine ⟨by omega, G302, fun a ha => ⟨?_, ?_⟩, d2, fun k q => by rw [G303]; exact d3 k q, d4, ?_, d5, old⟩
      · rw [GR, va_up_ne _ _ (by omega), va_up_ne _ _ (by omega)]; exact (a3.2.2.1 a ha).1
      · rw [GN, q4]; have := (a3.2.2.1 a ha).2; omega
      · rw [R17]; exact List.Pairwise.sublist List.filter_sublist u5
    · intro s hs
      rw [GP] at hs
      cases hs
      exact ⟨by rw [GN, q4]; exact p6, s3⟩
    · intro a b1 b2
      rw [GR]
      by_cases ca : a = na
      · rw [ca]; exact va_up_self _ _ _
      · rw [va_up_ne _ _ ca, va_up_ne _ _ ca]; exact a6 a b1 b2
    · intro j x hx
      rw [GR] at hx
      rw [GN, q4]
      by_cases cj : j = na
      · rw [cj, va_up_self] at hx; cases hx
      · rw [va_up_ne _ _ cj, va_up_ne _ _ cj] at hx
        have := a7 j x hx
        omega
    · rw [GN, q4]; exact s2
    · intro g'
      rw [GP] at g'
      cases g'
