/-! rents -/
def lbN (D G : Nat → Int32) (d a : Int32) : Nat → Int32
  | 0 => a
  | k + 1 => if ¬ G k = 0 ∧ lbN D G d a k < D k ∧ D k ≤ d then D k else lbN D G d a k
theorem lbN_same {D G : Nat → Int32} {d d' a : Int32} : ∀ n, (∀ k, k < n → ¬ G k = 0 → (D k ≤ d ↔ D k ≤ d')) → lbN D G d a n = lbN D G d' a n := by
  intro n
  induction n with
  | zero => intro _; rfl
  | succ n ih =>
    intro h
    have e := ih fun k hk => h k (by omega)
    rw [lbN, lbN, e]
    by_cases c : ¬ G n = 0
    · have := h n (by omega) c
      by_cases c2 : D n ≤ d
      · have c3 := this.mp c2
        by_cases c4 : lbN D G d' a n < D n
        · rw [if_pos ⟨c, c4, c2⟩, if_pos ⟨c, c4, c3⟩]
        · rw [if_neg fun g => c4 g.2.1, if_neg fun g => c4 g.2.1]
      · have c3 : ¬ D n ≤ d' := fun g => c2 (this.mpr g)
        rw [if_neg fun g => c2 g.2.2, if_neg fun g => c3 g.2.2]
    · rw [if_neg fun g => c g.1, if_neg fun g => c g.1]
section RENT
variable {σ σ' : MS} {τ τ' : XS} {K np ne na : Nat} {bl od : List Nat} {hh : Nat → Nat}
theorem latest_X (A : ActsR σ τ na hh od) (a d : Int32) : Lw_latestBegun τ a d = some (lbN (σ.2.1 17) (σ.2.1 19) d a na) := by
  have h9 := A.1
  have key : ∀ (m i fu : Nat), i + m = na → m < fu → Lw_latestBegun_L5_r τ fu d (lbN (σ.2.1 17) (σ.2.1 19) d a i) (nI i) = some (lbN (σ.2.1 17) (σ.2.1 19) d a na) := by
    intro m
    induction m with
    | zero =>
      intro i fu hi hf
      obtain ⟨f, rfl, -⟩ := fuel hf
      have hi : i = na := by omega
      subst hi
      rw [Lw_latestBegun_L5_r, A.2.1, if_pos (Int32.le_refl _)]
    | succ m ih =>
      intro i fu hi hf
      obtain ⟨f, rfl, hf2⟩ := fuel hf
      have hin : i < na := by omega
      have nx := ih (i + 1) f (by omega) (by omega)
      obtain ⟨k1, k2⟩ := A.2.2.1 i hin
      obtain ⟨y1, y2, nc, y3, y4, y5, y6, -⟩ := A.2.2.2.2.2.2.2.2 i hin
      rw [Lw_latestBegun_L5_r, A.2.1, if_neg (nI_ge (by omega) (by omega)), rd_nI (by omega) (by decide), k1, oN_some]
      simp only [oA_some k2, Lw_latestBegun_J60, nI_1, y1]
      rw [lbN] at nx
      by_cases c1 : tF τ (hh i) 1 = 0
      · rw [if_pos c1]
        rw [if_neg fun g => g.1 (y6.mp c1)] at nx
        exact nx
      rw [if_neg c1]
      by_cases c2 : σ.2.1 17 i ≤ lbN (σ.2.1 17) (σ.2.1 19) d a i
      · rw [if_pos c2]
        rw [if_neg fun g => by have := g.2.1; rw [i32_lt] at this; rw [i32_le] at c2; omega] at nx
        exact nx
      rw [if_neg c2]
      by_cases c3 : d < σ.2.1 17 i
      · rw [if_pos c3]
        rw [if_neg fun g => by have := g.2.2; rw [i32_le] at this; rw [i32_lt] at c3; omega] at nx
        exact nx
      rw [if_neg c3]
      rw [if_pos ⟨fun g => c1 (y6.mpr g), by rw [i32_le] at c2; rw [i32_lt]; omega, by rw [i32_lt] at c3; rw [i32_le]; omega⟩] at nx
      exact nx
  exact key na 0 100000 (by omega) (by omega)
theorem latest_M (h9 : na ≤ 9) (h16 : σ.1 16 + σ.1 50 = nI na) (d m a : Int32) (hm : Rm σ σ') : M_rentOn_L31 100000 σ' d m a a 0 = (M_ruled σ' 1 m a (lbN (σ.2.1 17) (σ.2.1 19) d a na)).bind (pq fun r3 r3s => ((M_stepped r3s 1 r3).bind fun r4 => (some (r4, r3s)))) := by
  have e16 : σ'.1 16 + σ'.1 50 = nI na := by rw [hm.1 16 (by decide) (by decide) (by decide), hm.1 50 (by decide) (by decide) (by decide)]; exact h16
  have key : ∀ (n i fu : Nat), i + n = na → n < fu → M_rentOn_L31_r fu σ' d m a (lbN (σ.2.1 17) (σ.2.1 19) d a i) (nI i) = (M_ruled σ' 1 m a (lbN (σ.2.1 17) (σ.2.1 19) d a na)).bind (pq fun r3 r3s => ((M_stepped r3s 1 r3).bind fun r4 => (some (r4, r3s)))) := by
    intro n
    induction n with
    | zero =>
      intro i fu hi hf
      obtain ⟨f, rfl, -⟩ := fuel hf
      have hi : i = na := by omega
      subst hi
      rw [M_rentOn_L31_r, e16, if_pos (Int32.le_refl _)]
    | succ n ih =>
      intro i fu hi hf
      obtain ⟨f, rfl, hf2⟩ := fuel hf
      have nx := ih (i + 1) f (by omega) (by omega)
      rw [M_rentOn_L31_r, e16, if_neg (nI_ge (by omega) (by omega))]
      simp only [rd_nI (show i < 9 by omega) (show 9 < 2 ^ 31 by decide), hm.2.1 19 (by decide), hm.2.1 17 (by decide), M_rentOn_J88, M_rentOn_J90, nI_1]
      rw [lbN] at nx
      by_cases c1 : σ.2.1 19 i = 0
      · rw [if_pos c1]
        rw [if_neg fun g => g.1 c1] at nx
        exact nx
      rw [if_neg c1]
      by_cases c2 : σ.2.1 17 i ≤ lbN (σ.2.1 17) (σ.2.1 19) d a i
      · rw [if_pos c2]
        rw [if_neg fun g => by have := g.2.1; rw [i32_lt] at this; rw [i32_le] at c2; omega] at nx
        exact nx
      rw [if_neg c2]
      by_cases c3 : d < σ.2.1 17 i
      · rw [if_pos c3]
        rw [if_neg fun g => by have := g.2.2; rw [i32_le] at this; rw [i32_lt] at c3; omega] at nx
        exact nx
      rw [if_neg c3]
      rw [if_pos ⟨c1, by rw [i32_le] at c2; rw [i32_lt]; omega, by rw [i32_lt] at c3; rw [i32_le]; omega⟩] at nx
      exact nx
  exact key na 0 100000 (by omega) (by omega)
/-- the yearly rent on a day -/
theorem CK.rent (h : CK σ τ K np ne bl na hh od) {p : Nat} (hp : p < np) {d : Int32} (hd : d.toInt ≤ 9999) : ∃ u : Int32, InR u 0 29997 ∧ QM σ (fun s => M_rentOn s (nI p) d) u ∧ QX τ (fun t => Cn_yearlyRent t (nI p) d) u.toInt64 ∧ ((σ.2.1 2 p ≠ 1 ∨ ∀ e, ¬ Own σ K p e) → u = 0) := by
  obtain ⟨r, hr, w1, w2⟩ := h.widow hp hd
  have w2' : ∀ τ', Rx τ τ' → Cn_deadHusband τ' (nI p) d = some r := w2
  rcases hr with rfl | ⟨⟨m, hm, rfl, sm, n4, -⟩, s1, e1, o1⟩
  · refine ⟨0, ⟨by decide, by decide⟩, fun σ' hm => ?_, fun τ' hx => ⟨τ', ?_, hx⟩, fun _ => rfl⟩
    · obtain ⟨σ1, q1, q2⟩ := w1 σ' hm
      have q1' : M_widowOf σ' (nI p) d = some (-1, σ1) := q1
      refine ⟨σ1, ?_, q2⟩
      show M_rentOn σ' (nI p) d = _
      unfold M_rentOn
      rw [q1', bind_pq, if_pos rfl]
    · show Cn_yearlyRent τ' (nI p) d = _
      unfold Cn_yearlyRent
      rw [w2' τ' hx, bind_so, if_neg m1_lt0]
      rfl
  have hm24 : m < 24 := by have := h.1.1.1.1; omega
  obtain ⟨dk, d1, d2⟩ := h.1.dies hm n4
  obtain ⟨w, k0, k1, k2⟩ := h.1.ruled (s := 1) (p0 := nI m) (dn := σ.2.1 44 m - 1) (d := lbN (σ.2.1 17) (σ.2.1 19) d (σ.2.1 44 m - 1) na) (Or.inr ⟨m, hm, rfl⟩) ⟨d1, d2⟩
  obtain ⟨u, t1, t2, t3⟩ := (h.1.1.2.2.2.2.2 1 w k0).1 (Or.inr (Or.inl rfl))
  refine ⟨u, t3, fun σ' hm' => ?_, fun τ' hx => ?_, fun g => absurd g (by
    rintro (g | g)
    · exact g s1
    · exact g e1 o1)⟩
  · obtain ⟨σ1, q1, q2⟩ := w1 σ' hm'
    have q1' : M_widowOf σ' (nI p) d = some (nI m, σ1) := q1
    obtain ⟨σ2, y1, y2⟩ := k1 σ1 q2
    have y1' : M_ruled σ1 1 (nI m) (σ.2.1 44 m - 1) (lbN (σ.2.1 17) (σ.2.1 19) d (σ.2.1 44 m - 1) na) = some (w, σ2) := y1
    refine ⟨σ2, ?_, y2⟩
    show M_rentOn σ' (nI p) d = _
    unfold M_rentOn
    have t1' : M_stepped σ2 1 w = some u := by
      unfold M_stepped at t1 ⊢
      rw [y2.2.1 51 (by decide)]
      exact t1
    rw [q1', bind_pq, if_neg (nI_ne_m1 (by omega)), rd_nI hm24 (by decide), q2.2.1 44 (by decide), latest_M h.1.1.na9 h.1.1.2.2.2.2.1 d (nI m) _ q2, y1', bind_pq, t1', bind_so]
  · obtain ⟨t, τ2, y1, y2, y3, y4⟩ := k2 τ' hx
    refine ⟨τ2, ?_, y4⟩
    show Cn_yearlyRent τ' (nI p) d = _
    unfold Cn_yearlyRent
    have ed : τ'.2.1 401 m = σ.2.1 44 m := by
      rw [hx.2.1 401 (by decide) (by decide)]
      exact h.1.2.1.2.2.2.2.2.2.1 m hm
    have At : ActsR σ t na hh od := (h.1.rr (Rm.refl σ) y2).1.2.2.2.1
    rw [w2' τ' hx, bind_so, if_pos (nI_le0 (by omega)), rd_nI hm24 (by decide), ed, y1, bind_pq, latest_X At, bind_so, y3, bind_pq, h.1.stepX y4, y2.1 207 (by decide) (by decide) (by decide), t2, bind_so]
/-- days on which a rent may change -/
def Ch (σ : MS) (K np na p : Nat) (c : Int32) : Prop := c = σ.2.1 44 p ∨ (∃ e, e < K ∧ σ.2.1 43 e ≠ 0 ∧ σ.2.1 8 e = 1 ∧ (σ.2.1 9 e = nI p ∨ σ.2.1 10 e = nI p) ∧ (c = σ.2.1 11 e ∨ ∃ q, q < np ∧ σ.2.1 9 e = nI q ∧ c = σ.2.1 44 q)) ∨ ∃ k, k < na ∧ σ.2.1 19 k ≠ 0 ∧ c = σ.2.1 17 k
theorem CK.rentConst (h : CK σ τ K np ne bl na hh od) {p : Nat} (hp : p < np) {d d' : Int32} (hd : d.toInt ≤ d'.toInt) (hd' : d'.toInt ≤ 9999) (hc : ∀ c, Ch σ K np na p c → ¬ (d.toInt < c.toInt ∧ c.toInt ≤ d'.toInt)) : vM σ (fun s => M_rentOn s (nI p) d) = vM σ (fun s => M_rentOn s (nI p) d') := by
  have h24 : p < 24 := by have := h.1.1.1.1; omega
  obtain ⟨u, -, u1, u2, -⟩ := h.rent hp (d := d) (by omega)
  obtain ⟨u', -, u1', u2', -⟩ := h.rent hp (d := d') hd'
  rw [u1.val, u1'.val]
  obtain ⟨r, hr, w1, w2⟩ := h.widow hp (d := d) (by omega)
  obtain ⟨r', hr', w1', w2'⟩ := h.widow hp (d := d') hd'
  have vw := h.1.2.1
  obtain ⟨hK, hnp, hk, -, -, ha, hdd, hw, hsg⟩ := h.1.2.1
  obtain ⟨a, l, sg, hm⟩ := hsg p hp
  -- the same dead husband
  have er : Cn_deadHusband τ (nI p) d = Cn_deadHusband τ (nI p) d' := by
    unfold Cn_deadHusband
    rw [Bk_isWoman_nI h.1.1.1 hp, bind_so, bind_so, b01_if, b01_if]
    by_cases c1 : σ.2.1 2 p = 1
    case neg => rw [if_neg c1, if_neg c1]
    rw [if_pos c1, if_pos c1]
    have lv : ∀ x : Int32, Lv_livesOn τ (nI p) x = some (b01 (σ.2.1 3 p ≤ x ∧ x < σ.2.1 44 p)) := by
      intro x
      unfold Lv_livesOn b01
      rw [rd_nI h24 (by decide), rd_nI h24 (by decide), ha.2.1, hdd p hp, in_if3]
      by_cases g : σ.2.1 3 p ≤ x ∧ x < σ.2.1 44 p
      · rw [if_pos g, if_pos g]
      · rw [if_neg g, if_neg g]
    have lw : (∀ e, e < K → SWed σ (nI p) d' e → (σ.2.1 11 e).toInt ≤ d.toInt) → Lv_lastOf τ (nI p) d 2 = Lv_lastOf τ (nI p) d' 2 := by
      intro hle
      obtain ⟨r1, x1, x2⟩ := Lv_lastOf_spec sg d 2
      obtain ⟨r2, y1, y2⟩ := Lv_lastOf_spec sg d' 2
      have z1 := x2.toP (vw.wedS (a := a) d hm)
      have z2 := y2.toP (vw.wedS (a := a) d' hm)
      have z3 := z2.congr (S' := SWed σ (nI p) d) fun e he => ⟨fun g => ⟨g.1, g.2.1, g.2.2.1, by rw [i32_le]; exact hle e he g⟩, fun g => ⟨g.1, g.2.1, g.2.2.1, by have := g.2.2.2; rw [i32_le] at this ⊢; omega⟩⟩
      rw [x1, y1, z1.uniq z3]
    rw [lv, lv, bind_so, bind_so, b01_if, b01_if]
    have c44 := hc _ (Or.inl rfl)
    by_cases cb : σ.2.1 3 p ≤ d
    · have cb' : σ.2.1 3 p ≤ d' := by rw [i32_le] at cb ⊢; omega
      by_cases cd : d < σ.2.1 44 p
      case neg =>
        rw [if_neg fun g => cd g.2, if_neg fun g => by have := g.2; rw [i32_lt] at this cd; omega]
      have cd' : d' < σ.2.1 44 p := by rw [i32_lt] at cd ⊢; omega
      rw [if_pos ⟨cb, cd⟩, if_pos ⟨cb', cd'⟩, lw fun e he g => by
        have g1 := hc (σ.2.1 11 e) (Or.inr (Or.inl ⟨e, he, g.1, g.2.1, g.2.2.1, Or.inl rfl⟩))
        have g2 := g.2.2.2
        rw [i32_le] at g2
        omega]
      obtain ⟨r2, hr2, -, y1⟩ := h.1.lastW hp d'
      have y1' : Lv_lastOf τ (nI p) d' 2 = some r2 := y1 τ (Rx.refl τ)
      rw [y1', bind_so, bind_so]
      rcases hr2 with rfl | ⟨e, rfl, he, hs⟩
      · rw [if_neg m1_lt0, if_neg m1_lt0]
      have he2 : e < 200 := by omega
      obtain ⟨-, ⟨q, hq, eq, -⟩, -⟩ := hw e he hs.1
      have g1 := hc (σ.2.1 44 q) (Or.inr (Or.inl ⟨e, he, hs.1, hs.2.1, hs.2.2.1, Or.inr ⟨q, hq, eq, rfl⟩⟩))
      simp only [rd_nI he2 (show 200 < 2 ^ 31 by decide), ha.2.2.2.2.2.1, eq, rd_nI (show q < 24 by omega) (show 24 < 2 ^ 31 by decide), hdd q hq]
      by_cases c5 : d < σ.2.1 44 q
      · have c5' : d' < σ.2.1 44 q := by rw [i32_lt] at c5 ⊢; omega
        rw [if_pos c5, if_pos c5']
      · have c5' : ¬ d' < σ.2.1 44 q := by rw [i32_lt] at c5 ⊢; omega
        rw [if_neg c5, if_neg c5']
    · rw [if_neg fun g => cb g.1]
      by_cases cb' : σ.2.1 3 p ≤ d' ∧ d' < σ.2.1 44 p
      case neg => rw [if_neg cb']
      rw [if_pos cb']
      obtain ⟨r2, hr2, -, y1⟩ := h.1.lastW hp d'
      have y1' : Lv_lastOf τ (nI p) d' 2 = some r2 := y1 τ (Rx.refl τ)
      rw [y1', bind_so]
      rcases hr2 with rfl | ⟨e, rfl, he, hs⟩
      · rw [if_neg m1_lt0]
      · exfalso
        have g1 := hc (σ.2.1 11 e) (Or.inr (Or.inl ⟨e, he, hs.1, hs.2.1, hs.2.2.1, Or.inl rfl⟩))
        have g2 := hs.2.2.2
        rw [i32_le] at g2 cb
        rcases h.1.1.2.1.2.2.2.2.2.2.2.2.1 e (by have := h.1.2.2.1; omega) with ⟨g, -⟩ | ⟨-, -, q, hq, eq, bq, -, gw, -⟩
        · rw [hs.2.1] at g; exact absurd g (by decide)
        · rcases hs.2.2.1 with g | g
          · have : q = p := (nI_eq (by omega) (by omega)).mp (eq.symm.trans g)
            subst this
            omega
          · obtain ⟨w, hw1, ew, -, bw⟩ := gw hs.2.1
            have : w = p := (nI_eq (by omega) (by omega)).mp (ew.symm.trans g)
            subst this
            omega
  have er' : r = r' := by
    have a1 : Cn_deadHusband τ (nI p) d = some r := w2 τ (Rx.refl τ)
    have a2 : Cn_deadHusband τ (nI p) d' = some r' := w2' τ (Rx.refl τ)
    rw [a1, a2] at er
    exact Option.some.inj er
  subst er'
  have ey : Cn_yearlyRent τ (nI p) d = Cn_yearlyRent τ (nI p) d' := by
    have a1 : Cn_deadHusband τ (nI p) d = some r := w2 τ (Rx.refl τ)
    have a2 : Cn_deadHusband τ (nI p) d' = some r := w2' τ (Rx.refl τ)
    unfold Cn_yearlyRent
    rw [a1, a2, bind_so, bind_so]
    rcases hr with rfl | ⟨⟨m, hm, rfl, sm, n4, -⟩, -⟩
    · rw [if_neg m1_lt0, if_neg m1_lt0]
    have hm24 : m < 24 := by omega
    obtain ⟨dk, d1, d2⟩ := h.1.dies hm n4
    obtain ⟨w, k0, k1, k2⟩ := h.1.ruled (s := 1) (p0 := nI m) (dn := σ.2.1 44 m - 1) (d := d) (Or.inr ⟨m, hm, rfl⟩) ⟨d1, d2⟩
    obtain ⟨t, τ2, y1, y2, -⟩ := k2 τ (Rx.refl τ)
    have At : ActsR σ t na hh od := (h.1.rr (Rm.refl σ) y2).1.2.2.2.1
    rw [rd_nI hm24 (by decide), rd_nI hm24 (by decide), hdd m hm, y1, bind_pq, bind_pq, latest_X At, latest_X At, lbN_same (d := d) (d' := d') na fun k hk g => ?_]
    have g1 := hc (σ.2.1 17 k) (Or.inr (Or.inr ⟨k, hk, g, rfl⟩))
    rw [i32_le, i32_le]
    omega
  obtain ⟨t1, z1, -⟩ := u2 τ (Rx.refl τ)
  obtain ⟨t2, z2, -⟩ := u2' τ (Rx.refl τ)
  have z1' : Cn_yearlyRent τ (nI p) d = some (u.toInt64, t1) := z1
  have z2' : Cn_yearlyRent τ (nI p) d' = some (u'.toInt64, t2) := z2
  rw [ey, z2'] at z1'
  have := (Prod.mk.inj (Option.some.inj z1')).1
  apply i32_eq.mpr
  rw [← Int32.toInt_toInt64, ← Int32.toInt_toInt64 u', this]
end RENT
