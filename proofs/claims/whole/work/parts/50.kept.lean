/-! the rule on any scratch; who counted the day ahead of his death; kinds of lives -/
section KEPT
variable {σ σ' : MS} {τ τ' : XS} {K np ne na : Nat} {bl od : List Nat} {hh : Nat → Nat}
theorem CV.ruled (h : CV σ τ K np ne bl na hh od) {s p0 dn d : Int32} (hp : p0 = -1 ∨ ∃ p, p < np ∧ p0 = nI p) (hd : -1 ≤ dn.toInt ∧ dn.toInt ≤ 10000) : ∃ w, InR w 0 9999 ∧ QM σ (fun s' => M_ruled s' s p0 dn d) w ∧ ∀ τ', Rx τ τ' → ∃ t τ2, Lw_nameFor τ' p0 dn = some ((), t) ∧ Rx τ t ∧ Lw_ruling t s d = some (w, τ2) ∧ Rx τ τ2 := by
  have pair : ∀ σ' τ', Rm σ σ' → Rx τ τ' → ∃ w σ1 t τ2, InR w 0 9999 ∧ M_ruled σ' s p0 dn d = some (w, σ1) ∧ Rm σ σ1 ∧ Lw_nameFor τ' p0 dn = some ((), t) ∧ Rx τ t ∧ Lw_ruling t s d = some (w, τ2) ∧ Rx τ τ2 := by
    intro σ' τ' hm hx
    obtain ⟨⟨P, B, M, A, h16, S⟩, vw, hK, D⟩ := h.rr hm hx
    obtain ⟨f, g, n1, n2, n3⟩ := names_eq vw P B hK hp hd
    obtain ⟨r, w, σ1, τ1, g1, g2, g3, g4, g5, g6⟩ := rule_core (A.eqR (σ' := σ') (τ' := τ') f g) h16 (fun k hk => by rw [sA_get, xA_get]; exact n3 k hk) s d
    obtain ⟨σ2, u1, u2⟩ := ruled_of A.1 n1 g1 (w := w) (by
      rcases g6 with ⟨y1, y2, -⟩ | ⟨a, c, y1, y2, y3, -, -, y4⟩
      · exact Or.inl ⟨y1, y2⟩
      · exact Or.inr ⟨a, c, y1, y2, y3, y4⟩)
    exact ⟨w, σ2, _, τ1, g5, u1, hm.trans ((Rm.nm f).trans (g2.rm.trans u2.rm)), n2, hx.trans (Rx.nm g), g3, hx.trans ((Rx.nm g).trans g4.rx)⟩
  obtain ⟨w, σ1, t, τ2, b1, b2, b3, b4, b5, b6, b7⟩ := pair σ τ (Rm.refl σ) (Rx.refl τ)
  refine ⟨w, b1, fun σ' hm => ?_, fun τ' hx => ?_⟩
  · obtain ⟨w', σ1', t', τ2', c1, c2, c3, c4, c5, c6, c7⟩ := pair σ' τ hm (Rx.refl τ)
    rw [b4] at c4
    have et := (Prod.mk.inj (Option.some.inj c4)).2
    rw [← et, b6] at c6
    have ew := (Prod.mk.inj (Option.some.inj c6)).1
    rw [ew]
    exact ⟨σ1', c2, c3⟩
  · obtain ⟨w', σ1', t', τ2', c1, c2, c3, c4, c5, c6, c7⟩ := pair σ τ' (Rm.refl σ) hx
    rw [b2] at c2
    have ew := (Prod.mk.inj (Option.some.inj c2)).1
    rw [ew]
    exact ⟨t', τ2', c4, c5, c6, c7⟩
theorem CV.stepX (h : CV σ τ K np ne bl na hh od) (hx : Rx τ τ') : Tr_stepped τ' = Tr_stepped τ := Tr_stepped_congr (hx.1 905 (by decide) (by decide) (by decide)) (hx.2.1 906 (by decide) (by decide)) (hx.2.1 907 (by decide) (by decide))
/-- what the rule comes to on both sides, before the steps (w) and with them (u) -/
theorem CV.comes (h : CV σ τ K np ne bl na hh od) (s : Int32) {p0 d : Int32} (hp : p0 = -1 ∨ ∃ p, p < np ∧ p0 = nI p) (hd : -1 ≤ d.toInt ∧ d.toInt ≤ 10000) : ∃ w u, InR w 0 9999 ∧ InR u 0 29997 ∧ QM σ (fun s' => M_ruled s' s p0 d d) w ∧ QX τ (fun t => Cn_comesTo t s p0 d) u ∧ (Stq s → UM σ (fun s' => M_stepped s' s w) u) ∧ (¬ Stq s → u = w) ∧ (τ.1 207 = 0 → u = w) := by
  obtain ⟨w, h1, h2, h3⟩ := h.ruled (s := s) (d := d) hp hd
  have hS := h.1.2.2.2.2.2 s w h1
  have fin : ∀ u, Tr_stepped τ (τ.1 207) s w = some u → QX τ (fun t => Cn_comesTo t s p0 d) u := by
    intro u hu τ' hx
    obtain ⟨t, τ2, q1, q2, q3, q4⟩ := h3 τ' hx
    refine ⟨τ2, ?_, q4⟩
    show Cn_comesTo τ' s p0 d = _
    unfold Cn_comesTo
    rw [q1, bind_pq, q3, bind_pq, h.stepX q4, q2.1 207 (by decide) (by decide) (by decide), hu]
    rfl
  have zero : ∀ u, Tr_stepped τ (τ.1 207) s w = some u → τ.1 207 = 0 → u = w := by
    intro u hu h0
    rw [h0] at hu
    unfold Tr_stepped at hu
    rw [if_pos rfl] at hu
    exact (Option.some.inj hu).symm
  by_cases c : Stq s
  · obtain ⟨u, k1, k2, k3⟩ := hS.1 c
    refine ⟨w, u, h1, k3, h2, fin u k2, fun _ σ' hm => ?_, fun g => absurd c g, zero u k2⟩
    show M_stepped σ' s w = _
    unfold M_stepped at k1 ⊢
    rw [hm.2.1 51 (by decide)]
    exact k1
  · exact ⟨w, w, h1, ⟨h1.1, by have := h1.2; omega⟩, h2, fin w (hS.2 c), fun g => absurd g c, fun _ => rfl, fun _ => rfl⟩
/-- M_counted, as the class would ask it -/
def X_counted (τ : XS) (p d : Int32) : Option (Int32 × XS) := (Lv_standing τ p d).bind fun s => if s = 1 then some (1, τ) else if s = 2 then (Cn_comesTo τ 6 p d).bind (pq fun r4 r4s => if r4 ≤ 0 then some (0, r4s) else some (1, r4s)) else some (0, τ)
theorem CV.counted (h : CV σ τ K np ne bl na hh od) {p : Nat} (hp : p < np) {d : Int32} (hd : -1 ≤ d.toInt ∧ d.toInt ≤ 10000) : ∃ c : Int32, (c = 0 ∨ c = 1) ∧ QM σ (fun s => M_counted s (nI p) d) c ∧ QX τ (fun t => X_counted t (nI p) d) c := by
  obtain ⟨v, v0, v1w, v2w, v3w⟩ := h.std hp d
  have v1 : ∀ σ', Rm σ σ' → M_isMember σ' (nI p) d = some (if v = 1 then 1 else 0) := v1w
  have v2 : ∀ σ', Rm σ σ' → M_isGone σ' (nI p) d = some (if v = 2 then 1 else 0) := v2w
  have v3 : ∀ τ', Rx τ τ' → Lv_standing τ' (nI p) d = some v := v3w
  have n10 : ¬ (1 : Int32) = 0 := by decide
  rcases v0 with rfl | rfl | rfl
  · refine ⟨0, Or.inl rfl, fun σ' hm => ⟨σ', ?_, hm⟩, fun τ' hx => ⟨τ', ?_, hx⟩⟩
    · show M_counted σ' (nI p) d = _
      unfold M_counted
      rw [v1 σ' hm, bind_so, if_neg (show ¬ (0 : Int32) = 1 by decide), if_pos rfl, v2 σ' hm, bind_so, if_neg (show ¬ (0 : Int32) = 2 by decide), if_pos rfl]
    · show X_counted τ' (nI p) d = _
      unfold X_counted
      rw [v3 τ' hx, bind_so, if_neg (show ¬ (0 : Int32) = 1 by decide), if_neg (show ¬ (0 : Int32) = 2 by decide)]
  · refine ⟨1, Or.inr rfl, fun σ' hm => ⟨σ', ?_, hm⟩, fun τ' hx => ⟨τ', ?_, hx⟩⟩
    · show M_counted σ' (nI p) d = _
      unfold M_counted
      rw [v1 σ' hm, bind_so, if_pos rfl, if_neg n10]
    · show X_counted τ' (nI p) d = _
      unfold X_counted
      rw [v3 τ' hx, bind_so, if_pos rfl]
  · obtain ⟨w, u, w1, w2, w3, w4, -, w5, -⟩ := h.comes 6 (p0 := nI p) (d := d) (Or.inr ⟨p, hp, rfl⟩) hd
    have e : u = w := w5 (by unfold Stq; decide)
    subst e
    refine ⟨if u ≤ 0 then 0 else 1, by by_cases c : u ≤ 0; exact Or.inl (if_pos c); exact Or.inr (if_neg c), fun σ' hm => ?_, fun τ' hx => ?_⟩
    · obtain ⟨σ1, q1, q2⟩ := w3 σ' hm
      refine ⟨σ1, ?_, q2⟩
      show M_counted σ' (nI p) d = _
      unfold M_counted
      have q1' : M_ruled σ' 6 (nI p) d d = some (u, σ1) := q1
      rw [v1 σ' hm, bind_so, if_neg (show ¬ (2 : Int32) = 1 by decide), if_pos rfl, v2 σ' hm, bind_so, if_pos rfl, if_neg n10, q1', bind_pq]
      by_cases c : u ≤ 0
      · rw [if_pos c, if_pos c]
      · rw [if_neg c, if_neg c]
    · obtain ⟨τ1, q1, q2⟩ := w4 τ' hx
      refine ⟨τ1, ?_, q2⟩
      show X_counted τ' (nI p) d = _
      unfold X_counted
      have q1' : Cn_comesTo τ' 6 (nI p) d = some (u, τ1) := q1
      rw [v3 τ' hx, bind_so, if_neg (show ¬ (2 : Int32) = 1 by decide), if_pos rfl, q1', bind_pq]
      by_cases c : u ≤ 0
      · rw [if_pos c, if_pos c]
      · rw [if_neg c, if_neg c]
/-- what the class keeps of those who die -/
def KP (σ : MS) (f : Nat → Int32) (np : Nat) : Prop := ∀ p, p < np → σ.2.1 44 p ≠ 10000 → (f p = 0 ∨ f p = 1) ∧ QM σ (fun s => M_counted s (nI p) (σ.2.1 44 p - 1)) (f p)
theorem DayOk.pred {d : Int32} (h : DayOk d) : (d - 1).toInt = d.toInt - 1 := by
  unfold DayOk at h
  rw [Int32.toInt_sub, show (1 : Int32).toInt = 1 from rfl, show (2 : Nat) ^ 32 = 4294967296 from rfl]
  exact Int.bmod_eq_of_le (by omega) (by omega)
theorem CV.dies (h : CV σ τ K np ne bl na hh od) {p : Nat} (hp : p < np) (c : σ.2.1 44 p ≠ 10000) : DayOk (σ.2.1 44 p) ∧ -1 ≤ (σ.2.1 44 p - 1).toInt ∧ (σ.2.1 44 p - 1).toInt ≤ 10000 := by
  rcases h.2.2.2 p hp with g | ⟨g, -⟩
  · exact absurd g c
  · refine ⟨g, ?_⟩
    rw [g.pred]
    unfold DayOk at g
    omega
theorem markKept_spec (h : CV σ τ K np ne bl na hh od) : ∃ f τ', Cn_markKept τ = some ((), τ') ∧ Rx (xA τ 206 f) τ' ∧ KP σ f np := by
  have h24 : np ≤ 24 := h.1.1.1
  have key : ∀ (m i fu : Nat) (f : Nat → Int32) (τ' : XS), i + m = np → m < fu → Rx (xA τ 206 f) τ' → KP σ f i → ∃ f' τ'', Cn_markKept_L2_r fu τ' (nI i) = some ((), τ'') ∧ Rx (xA τ 206 f') τ'' ∧ KP σ f' np := by
    intro m
    induction m with
    | zero =>
      intro i fu f τ' hi hf hx hk
      obtain ⟨fu, rfl, -⟩ := fuel hf
      have hi : i = np := by omega
      subst hi
      have e104 : τ'.1 104 = nI i := (hx.1 104 (by decide) (by decide) (by decide)).trans h.1.1.2.2.1
      exact ⟨f, τ', by rw [Cn_markKept_L2_r, e104, if_pos (Int32.le_refl _)], hx, hk⟩
    | succ m ih =>
      intro i fu f τ' hi hf hx hk
      obtain ⟨fu, rfl, hf2⟩ := fuel hf
      have hin : i < np := by omega
      have hi24 : i < 24 := by omega
      have e104 : τ'.1 104 = nI np := (hx.1 104 (by decide) (by decide) (by decide)).trans h.1.1.2.2.1
      have e401 : τ'.2.1 401 i = σ.2.1 44 i := by
        rw [hx.2.1 401 (by decide) (by decide), xA_ne (by decide)]
        exact h.2.1.2.2.2.2.2.2.1 i hin
      have fin : ∀ (v : Int32) (t : XS), Rx (xA τ 206 f) t → (v = 0 ∨ v = 1) → (σ.2.1 44 i ≠ 10000 → QM σ (fun s => M_counted s (nI i) (σ.2.1 44 i - 1)) v) → ∃ f' τ'', Cn_markKept_J85 (Cn_markKept_L2_r fu) t (nI i) v (nI i) = some ((), τ'') ∧ Rx (xA τ 206 f') τ'' ∧ KP σ f' np := by
        intro v t ht hv hs
        unfold Cn_markKept_J85
        have en : vp_nar .boolean v = v := by
          rcases hv with rfl | rfl
          · exact nar0
          · exact nar1
        rw [wr_nI hi24 (by decide), cl_nI (by omega), nI_1, en]
        have e206 : t.2.1 206 = f := by rw [ht.2.1 206 (by decide) (by decide), xA_get]
        refine ih (i + 1) fu (upd f i v) _ (by omega) (by omega) ⟨fun j a b c => ht.1 j a b c, fun j a b => ?_, ht.2.2⟩ (fun p hp c => ?_)
        · by_cases q : j = 206
          · subst q
            rw [xA_get, xA_get, e206]
          · rw [xA_ne q, xA_ne q, ht.2.1 j a b, xA_ne q]
        · by_cases q : p = i
          · subst q
            rw [pk_us]
            exact ⟨hv, hs c⟩
          · rw [pk_un q]
            exact hk p (by omega) c
      rw [Cn_markKept_L2_r, e104, if_neg (nI_ge (by omega) (by omega)), rd_nI hi24 (by decide), rd_nI hi24 (by decide), e401]
      by_cases c : σ.2.1 44 i = 10000
      · rw [if_pos c]
        unfold Cn_markKept_J53 Cn_markKept_J84
        rw [if_neg (show ¬ (0 : Int32) = 1 by decide), if_neg (show ¬ (0 : Int32) = 2 by decide)]
        exact fin 0 τ' hx (Or.inl rfl) fun g => absurd c g
      rw [if_neg c]
      obtain ⟨c1, c2⟩ := h.dies hin c
      obtain ⟨v, v0, v1, v2, v3⟩ := (h.kp f).std hin (σ.2.1 44 i - 1)
      obtain ⟨k, k0, k1, k2⟩ := (h.kp f).counted hin c2
      obtain ⟨τ1, x1, x2⟩ := k2 τ' hx
      have x1' : X_counted τ' (nI i) (σ.2.1 44 i - 1) = some (k, τ1) := x1
      have v3' : Lv_standing τ' (nI i) (σ.2.1 44 i - 1) = some v := v3 τ' hx
      unfold X_counted at x1'
      rw [v3', bind_so] at x1' ⊢
      unfold Cn_markKept_J53 Cn_markKept_J84 Cn_markKept_J80
      rcases v0 with rfl | rfl | rfl
      · rw [if_neg (show ¬ (0 : Int32) = 1 by decide), if_neg (show ¬ (0 : Int32) = 2 by decide)] at x1' ⊢
        have ek : (0 : Int32) = k := (Prod.mk.inj (Option.some.inj x1')).1
        rw [← ek] at k1
        exact fin 0 τ' hx (Or.inl rfl) fun _ => k1
      · rw [if_pos rfl] at x1' ⊢
        have ek : (1 : Int32) = k := (Prod.mk.inj (Option.some.inj x1')).1
        rw [← ek] at k1
        exact fin 1 τ' hx (Or.inr rfl) fun _ => k1
      · rw [if_neg (show ¬ (2 : Int32) = 1 by decide), if_pos rfl] at x1' ⊢
        obtain ⟨w, u, -, -, -, w4, -⟩ := (h.kp f).comes 6 (p0 := nI i) (Or.inr ⟨i, hin, rfl⟩) c2
        obtain ⟨τ2, y1, y2⟩ := w4 τ' hx
        have y1' : Cn_comesTo τ' 6 (nI i) (σ.2.1 44 i - 1) = some (u, τ2) := y1
        rw [y1', bind_pq] at x1' ⊢
        by_cases q : u ≤ 0
        · rw [if_pos q] at x1' ⊢
          have ek : (0 : Int32) = k := (Prod.mk.inj (Option.some.inj x1')).1
          rw [← ek] at k1
          exact fin 0 τ2 y2 (Or.inl rfl) fun _ => k1
        · rw [if_neg q] at x1' ⊢
          have ek : (1 : Int32) = k := (Prod.mk.inj (Option.some.inj x1')).1
          rw [← ek] at k1
          exact fin 1 τ2 y2 (Or.inr rfl) fun _ => k1
  have e : xA τ 206 (τ.2.1 206) = τ := by
    refine Prod.ext rfl (Prod.ext (funext fun j => ?_) rfl)
    show va_up τ.2.1 206 (τ.2.1 206) j = τ.2.1 j
    unfold va_up
    by_cases q : j = 206
    · rw [if_pos q, q]
    · rw [if_neg q]
  obtain ⟨f', τ'', q1, q2, q3⟩ := key np 0 100000 (τ.2.1 206) τ (by omega) (by omega) (by rw [e]; exact Rx.refl τ) (fun p hp => absurd hp (Nat.not_lt_zero _))
  exact ⟨f', τ'', q1, q2, q3⟩
/-- the view with what is kept -/
def CK (σ : MS) (τ : XS) (K np ne : Nat) (bl : List Nat) (na : Nat) (hh : Nat → Nat) (od : List Nat) : Prop := CV σ τ K np ne bl na hh od ∧ KP σ (τ.2.1 206) np
theorem CK.rr (h : CK σ τ K np ne bl na hh od) (hm : Rm σ σ') (hx : Rx τ τ') : CK σ' τ' K np ne bl na hh od := by
  refine ⟨h.1.rr hm hx, fun p hp c => ?_⟩
  rw [hm.2.1 44 (by decide)] at c ⊢
  rw [hx.2.1 206 (by decide) (by decide)]
  obtain ⟨q1, q2⟩ := h.2 p hp c
  exact ⟨q1, q2.at hm⟩
/-- by e: the reference looks, the class looks -/
theorem CB.look (h : CB σ τ np ne bl na hh od) {e : Int32} (he : -1 ≤ e ∧ e ≤ nI ne) : ∃ K σl τl τ1, M_looks σ e = some ((), σl) ∧ Cn_look τ e = some ((), τ1) ∧ CK σl τl K np ne bl na hh od ∧ Rx τl τ1 ∧ SameM σ σl ∧ SameX τ τl := by
  obtain ⟨P, B, M, A, h16, S⟩ := h
  obtain ⟨K, hK, hk⟩ : ∃ K, K ≤ ne ∧ ((e = -1 ∧ K = ne) ∨ (e ≠ -1 ∧ e = nI K)) := by
    obtain ⟨K, hK, g | g⟩ := inR he (by have := B.1; omega)
    · exact ⟨ne, Nat.le_refl _, Or.inl ⟨g, rfl⟩⟩
    · exact ⟨K, hK, Or.inr g⟩
  obtain ⟨s, d, d', a, t, l, q1, q2, q3, q4⟩ := view_of P B hK hk
  have hd := view_dies P B hK hk q1
  have cv : CV (lookM σ K s d) (lookX τ d' a t l) K np ne bl na hh od := ⟨CB.to ⟨P, B, M, A, h16, S⟩ SameM.look SameX.look, q4, hK, fun p hp => by
    rw [lookM_d, lookM_2 (by decide)]; exact hd p hp⟩
  obtain ⟨f, τ1, k1, k2, k3⟩ := markKept_spec cv
  refine ⟨K, _, xA (lookX τ d' a t l) 206 f, τ1, q1, ?_, ⟨cv.kp f, by rw [xA_get]; exact k3⟩, k2, SameM.look, SameX.look.trans ⟨fun _ _ _ _ => rfl, fun j j1 _ _ _ _ _ _ => xA_ne j1, rfl⟩⟩
  unfold Cn_look
  rw [q2, bind_pq, k1, bind_pq]
/-- by e: the reference looks, the class reads the book -/
theorem CB.read (h : CB σ τ np ne bl na hh od) {e : Int32} (he : -1 ≤ e ∧ e ≤ nI ne) : ∃ K σl τl, M_looks σ e = some ((), σl) ∧ Lv_readBook τ e = some ((), τl) ∧ CV σl τl K np ne bl na hh od ∧ SameM σ σl ∧ SameX τ τl := by
  obtain ⟨P, B, M, A, h16, S⟩ := h
  obtain ⟨K, hK, hk⟩ : ∃ K, K ≤ ne ∧ ((e = -1 ∧ K = ne) ∨ (e ≠ -1 ∧ e = nI K)) := by
    obtain ⟨K, hK, g | g⟩ := inR he (by have := B.1; omega)
    · exact ⟨ne, Nat.le_refl _, Or.inl ⟨g, rfl⟩⟩
    · exact ⟨K, hK, Or.inr g⟩
  obtain ⟨s, d, d', a, t, l, q1, q2, q3, q4⟩ := view_of P B hK hk
  have hd := view_dies P B hK hk q1
  exact ⟨K, _, _, q1, q2, ⟨CB.to ⟨P, B, M, A, h16, S⟩ SameM.look SameX.look, q4, hK, fun p hp => by
    rw [lookM_d, lookM_2 (by decide)]; exact hd p hp⟩, SameM.look, SameX.look⟩
theorem InvA.cb {np ne : Nat} {bl : List Nat} (hP : PplI σ τ np) (hB : BkI σ τ np ne bl) (hM : MisI σ τ np) (ha : ActI σ τ) : ∃ na hh od, CB σ τ np ne bl na hh od := by
  have h50 : σ.1 50 = 0 := hM.2.2.2.2.2.2.2.2.2.2.2.2.2.2.2.2.2.2
  obtain ⟨na, hh, od, a1, a2, a3, -⟩ := ha
  exact ⟨na, hh, od, hP, hB, hM.nm, a3, by rw [a2, h50]; exact Int32.add_zero _, hM.stepV⟩
end KEPT
