/-! the calls rule and why -/
theorem ActsR.eqR {σ σ' : MS} {τ τ' : XS} {na : Nat} {h : Nat → Nat} {od : List Nat} (g : ActsR σ τ na h od) (f gg : Nat → Int32) : ActsR (sA σ 49 f) (xA τ 305 gg) na h od :=
  g.eqs (sA_ne (by decide)) (sA_ne (by decide)) (sA_ne (by decide)) (sA_ne (by decide)) (sA_ne (by decide)) (sA_ne (by decide)) (sA_ne (by decide)) (sA_ne (by decide)) (sA_ne (by decide)) rfl (xA_ne (by decide)) rfl
theorem names_eq {σ : MS} {τ : XS} {K np ne : Nat} {bl : List Nat} (vw : Vw σ τ K np) (hP : PplI σ τ np) (hB : BkI σ τ np ne bl) (hK : K ≤ ne) {p0 : Int32} (hp : p0 = -1 ∨ ∃ p, p < np ∧ p0 = nI p) {d : Int32} (hd : -1 ≤ d.toInt ∧ d.toInt ≤ 10000) : ∃ f g : Nat → Int32, M_namesOf σ p0 d = some ((), sA σ 49 f) ∧ Lw_nameFor τ p0 d = some ((), xA τ 305 g) ∧ ∀ k, k < 5 → f k = g k := by
  rcases hp with rfl | ⟨p, hp, rfl⟩
  · obtain ⟨f, g, h1, h2, h3, h4⟩ := names_none σ τ hd.1 np hP
    exact ⟨f, g, h1, h2, fun k hk => (h3 k hk).trans (h4 k hk).symm⟩
  · obtain ⟨f, g, a, b, c, w, h1, h2, h3, h4, -⟩ := names_some vw hP hB hK hp hd
    exact ⟨f, g, h1, h2, fun k hk => (h3 k hk).trans (h4 k hk).symm⟩
theorem split8 {a c : Nat} (ha : a < 9) (hc : c < 8) : nI (8 * a + c) / 8 = nI a ∧ nI (8 * a + c) - nI (8 * a + c) / 8 * 8 = nI c := by
  constructor
  · rw [show (8 : Int32) = nI 8 from rfl, pk_div (by omega) (by decide) (by decide), show (8 * a + c) / 8 = a by omega]
  · rw [show (8 : Int32) = nI 8 from rfl, pk_rem (by omega) (by decide) (by decide), show (8 * a + c) % 8 = c by omega]
theorem ruled_of {σ σ1 : MS} {s d r w : Int32} {na : Nat} (hna : na ≤ 9) {p0 dn : Int32} {σ0 : MS} (hn : M_namesOf σ0 p0 dn = some ((), σ)) (hg : M_governs σ s d = some (r, σ1)) (hr : (r = -1 ∧ w = dflt s) ∨ ∃ a c, r = nI (8 * a + c) ∧ a < na ∧ c < 8 ∧ ∃ σ2, M_comesTo σ1 (nI a) (nI c) = some (w, σ2) ∧ Lk σ1 σ2) : ∃ σ2, M_ruled σ0 s p0 dn d = some (w, σ2) ∧ Lk σ1 σ2 := by
  unfold M_ruled M_ruled_J61
  rw [hn, bind_pq, hg, bind_pq]
  rcases hr with ⟨h1, h2⟩ | ⟨a, c, h1, ha, hc, σ2, q1, q2⟩
  · rw [if_pos h1, h2]
    refine ⟨σ1, ?_, Lk.rfl⟩
    unfold dflt
    split
    · rfl
    split <;> rfl
  · rw [if_neg (by rw [h1]; exact nI_ne_m1 (by omega)), h1, (split8 (by omega) hc).2, (split8 (by omega) hc).1, q1, bind_pq]
    exact ⟨σ2, rfl, q2⟩
theorem W_isSubject_eq {τ : XS} {p : Int32} : W_isSubject τ p = some (b01 (0 ≤ p ∧ p ≤ 8)) := by
  unfold W_isSubject
  rw [in_if3, b01_congr (Q := 0 ≤ p ∧ p < 9)]
  · unfold b01
    by_cases h : 0 ≤ p ∧ p < 9
    · rw [if_pos h, if_pos h]
    · rw [if_neg h, if_neg h]
  · refine and_congr_right fun _ => ?_
    rw [i32_le, i32_lt, show (8 : Int32).toInt = 8 from rfl, show (9 : Int32).toInt = 9 from rfl]
    omega
/-- the questions that both ask first -/
theorem ask_cases {σ : MS} {τ : XS} {np ne : Nat} {bl : List Nat} (hP : PplI σ τ np) (hB : BkI σ τ np ne bl) (p0 p1 p2 p3 : Int32) : (M_isAsked σ p0 p1 p3 = some 0 ∧ W_refuseRule τ p0 p1 p2 p3 = some (-1, τ)) ∨ (M_isAsked σ p0 p1 p3 = some 1 ∧ ¬ (0 ≤ p2 ∧ p2 ≤ 9999) ∧ W_refuseRule τ p0 p1 p2 p3 = some (-2, τ)) ∨ (M_isAsked σ p0 p1 p3 = some 1 ∧ (0 ≤ p2 ∧ p2 ≤ 9999) ∧ (-1 ≤ p3 ∧ p3 ≤ nI ne) ∧ (p1 = -1 ∨ ∃ p, p < np ∧ p1 = nI p) ∧ W_refuseRule τ p0 p1 p2 p3 = (Lv_readBook τ p3).bind (pq fun _ r4s => ((Lw_nameFor r4s p1 p2).bind (pq fun _ r5s => (some (0, r5s)))))) := by
  have hP1 := hP.1
  unfold M_isAsked M_isAsked_J23 W_refuseRule W_refuseRule_J23
  rw [M_in_eq, W_isSubject_eq, M_isBy_eq hB.2.1, Bk_isReach_eq hB.2.2.1, W_isDay_eq]
  simp only [bind_so, b01_if]
  by_cases c : 0 ≤ p0 ∧ p0 ≤ 8
  case neg =>
    rw [if_neg c, if_neg c]
    exact Or.inl ⟨rfl, rfl⟩
  rw [if_pos c, if_pos c]
  have rest : (p1 = -1 ∨ ∃ p, p < np ∧ p1 = nI p) → ((if -1 ≤ p3 ∧ p3 ≤ nI ne then some (1 : Int32) else some 0) = some 0 ∧ (if -1 ≤ p3 ∧ p3 ≤ nI ne then (if 0 ≤ p2 ∧ p2 ≤ 9999 then (Lv_readBook τ p3).bind (pq fun _ r4s => ((Lw_nameFor r4s p1 p2).bind (pq fun _ r5s => (some ((0 : Int32), r5s))))) else some (-2, τ)) else some (-1, τ)) = some (-1, τ)) ∨ ((if -1 ≤ p3 ∧ p3 ≤ nI ne then some (1 : Int32) else some 0) = some 1 ∧ ¬ (0 ≤ p2 ∧ p2 ≤ 9999) ∧ (if -1 ≤ p3 ∧ p3 ≤ nI ne then (if 0 ≤ p2 ∧ p2 ≤ 9999 then (Lv_readBook τ p3).bind (pq fun _ r4s => ((Lw_nameFor r4s p1 p2).bind (pq fun _ r5s => (some ((0 : Int32), r5s))))) else some (-2, τ)) else some (-1, τ)) = some (-2, τ)) ∨ ((if -1 ≤ p3 ∧ p3 ≤ nI ne then some (1 : Int32) else some 0) = some 1 ∧ (0 ≤ p2 ∧ p2 ≤ 9999) ∧ (-1 ≤ p3 ∧ p3 ≤ nI ne) ∧ (p1 = -1 ∨ ∃ p, p < np ∧ p1 = nI p) ∧ (if -1 ≤ p3 ∧ p3 ≤ nI ne then (if 0 ≤ p2 ∧ p2 ≤ 9999 then (Lv_readBook τ p3).bind (pq fun _ r4s => ((Lw_nameFor r4s p1 p2).bind (pq fun _ r5s => (some ((0 : Int32), r5s))))) else some (-2, τ)) else some (-1, τ)) = (Lv_readBook τ p3).bind (pq fun _ r4s => ((Lw_nameFor r4s p1 p2).bind (pq fun _ r5s => (some (0, r5s)))))) := by
    intro hp
    by_cases c3 : -1 ≤ p3 ∧ p3 ≤ nI ne
    case neg =>
      rw [if_neg c3, if_neg c3]
      exact Or.inl ⟨rfl, rfl⟩
    rw [if_pos c3, if_pos c3]
    by_cases c2 : 0 ≤ p2 ∧ p2 ≤ 9999
    · rw [if_pos c2]
      exact Or.inr (Or.inr ⟨rfl, c2, c3, hp, rfl⟩)
    · rw [if_neg c2]
      exact Or.inr (Or.inl ⟨rfl, c2, rfl⟩)
  by_cases c1 : p1 = -1
  · rw [if_pos c1, if_pos c1]
    exact rest (Or.inl c1)
  rw [if_neg c1, if_neg c1]
  unfold M_isMan Bk_isMan
  rw [M_isPerson_eq hP1 hP.2.1, Bk_isPerson_eq hP.2.2.1, bind_so, bind_so, b01_if, b01_if]
  by_cases cp : 0 ≤ p1 ∧ p1 < nI np
  case neg =>
    rw [if_neg cp, if_neg cp]
    exact Or.inl ⟨rfl, rfl⟩
  rw [if_pos cp, if_pos cp]
  obtain ⟨p, hp, e⟩ := inN cp (by omega)
  have r1 : ∀ {α : Type} (k : Int32 → Option α), rd (σ.2.1 2) 24 p1 k = k (σ.2.1 2 p) := fun k => by rw [e, rd_nI (by omega) (by decide)]
  rw [hP.2.2.2.1, r1]
  by_cases cs : σ.2.1 2 p = 0
  · rw [if_pos cs]
    simp only [bind_so, if_neg (show ¬ (1 : Int32) = 0 by decide)]
    exact rest (Or.inr ⟨p, hp, e⟩)
  · rw [if_neg cs]
    exact Or.inl ⟨rfl, rfl⟩
/-- after the questions: the book is read, the names are laid, the ruling is found on both sides -/
theorem rule_view {σ : MS} {τ : XS} {np ne : Nat} {bl : List Nat} (hP : PplI σ τ np) (hB : BkI σ τ np ne bl) (hM : MisI σ τ np) (ha : ActI σ τ) {s p1 p2 p3 : Int32} (hd : 0 ≤ p2 ∧ p2 ≤ 9999) (hr : -1 ≤ p3 ∧ p3 ≤ nI ne) (hp : p1 = -1 ∨ ∃ p, p < np ∧ p1 = nI p) : ∃ σl τl σn τn r w σ1 τ1, M_looks σ p3 = some ((), σl) ∧ Lv_readBook τ p3 = some ((), τl) ∧ M_namesOf σl p1 p2 = some ((), σn) ∧ Lw_nameFor τl p1 p2 = some ((), τn) ∧ M_governs σn s p2 = some (r, σ1) ∧ Lw_ruling τn s p2 = some (w, τ1) ∧ InvA ActI σ1 τ1 ∧ InR w 0 9999 ∧ (∀ σ2, Lk σ1 σ2 → InvA ActI σ2 τ1) ∧ ((r = -1 ∧ w = dflt s ∧ τ1.1 307 = -5) ∨ ∃ a c, r = nI (8 * a + c) ∧ a < 9 ∧ c < 8 ∧ τ1.1 307 = nI (100 * a + c) ∧ ∃ σ2, M_comesTo σ1 (nI a) (nI c) = some (w, σ2) ∧ Lk σ1 σ2) := by
  obtain ⟨K, sr, d, d', a, t, l, hK, hk', q1, q2, q3, vw, P', B', M', A'⟩ := InvA.view ActI_stb hP hB hM ha hr
  have hd' : -1 ≤ p2.toInt ∧ p2.toInt ≤ 10000 := by
    have h1 := dayOk_of hd
    unfold DayOk at h1
    omega
  obtain ⟨f, g, n1, n2, n3⟩ := names_eq vw P' B' hK hp hd'
  have same0 : InvA ActI (lookM σ K sr d) (lookX τ d' a t l) := ⟨np, ne, bl, P', B', M', A'⟩
  obtain ⟨na, h, od, a1, a2, a3, -⟩ := A'
  have h50 : (lookM σ K sr d).1 50 = 0 := M'.2.2.2.2.2.2.2.2.2.2.2.2.2.2.2.2.2.2
  obtain ⟨r, w, σ1, τ1, g1, g2, g3, g4, g5, g6⟩ := rule_core (a3.eqR (σ' := σ) (τ' := τ) f g) (show (lookM σ K sr d).1 16 + (lookM σ K sr d).1 50 = nI na by rw [a2, h50]; exact Int32.add_zero _) (fun k hk => by rw [sA_get, xA_get]; exact n3 k hk) s p2
  have sM : ∀ σ2, Lk (sA (lookM σ K sr d) 49 f) σ2 → SameM (lookM σ K sr d) σ2 := fun σ2 k => SameM.trans (b := sA (lookM σ K sr d) 49 f) ⟨fun _ _ _ _ _ => rfl, fun j _ _ h3 => sA_ne h3, rfl⟩ k.same
  have sX : SameX (lookX τ d' a t l) τ1 := SameX.trans (b := xA (lookX τ d' a t l) 305 g) ⟨fun _ _ _ _ => rfl, fun j _ h2 _ _ _ _ _ => xA_ne h2, rfl⟩ ⟨fun j j1 j2 j3 => g4.1 j j1 j2 j3, fun j _ _ j3 _ _ _ _ => g4.2.1 j j3, g4.2.2⟩
  refine ⟨_, _, _, _, r, w, σ1, τ1, q1, q2, n1, n2, g1, g3, same0.same ActI_stb (sM σ1 g2) sX, g5, fun σ2 k => same0.same ActI_stb (sM σ2 (g2.trans k)) sX, ?_⟩
  rcases g6 with y | ⟨x, c, y1, y2, y3, y4, -, y5⟩
  · exact Or.inl y
  · exact Or.inr ⟨x, c, y1, by omega, y3, y4, y5⟩
theorem st18 : St18 (InvA ActI) := by
  intro σ τ xs i h
  have same : InvA ActI σ τ := h
  obtain ⟨np, ne, bl, hP, hB, hM, ha⟩ := h
  generalize xs (i + 1) = p0
  generalize xs (i + 2) = p1
  generalize xs (i + 3) = p2
  generalize xs (i + 4) = p3
  unfold W_rule M_rule
  rw [M_isDay_eq]
  simp only [bind_so, b01_if]
  rcases ask_cases hP hB p0 p1 p2 p3 with ⟨m, x⟩ | ⟨m, c, x⟩ | ⟨m, c, c3, hp, x⟩
  · rw [m, x, bind_pq, bind_so, if_pos rfl, if_neg (by decide)]
    exact ⟨_, _, _, rfl, rfl, same⟩
  · rw [m, x, bind_pq, bind_so, if_neg (show ¬ (1 : Int32) = 0 by decide), if_neg c, if_neg (by decide)]
    exact ⟨_, _, _, rfl, rfl, same⟩
  obtain ⟨σl, τl, σn, τn, r, w, σ1, τ1, v1, v2, v3, v4, v5, v6, v7, v8, v9, v10⟩ := rule_view (s := p0) hP hB hM ha c c3 hp
  rw [m, x, v2, bind_pq, v4, bind_pq, bind_pq, if_pos (by decide), v6, bind_pq, bind_so, if_neg (show ¬ (1 : Int32) = 0 by decide), if_pos c, v1, bind_pq]
  obtain ⟨σ2, u1, u2⟩ := ruled_of (na := 9) (by decide) v3 v5 (w := w) (by
    rcases v10 with ⟨y1, y2, -⟩ | ⟨a, c, y1, y2, y3, -, y4⟩
    · exact Or.inl ⟨y1, y2⟩
    · exact Or.inr ⟨a, c, y1, y2, y3, y4⟩)
  rw [u1, bind_pq]
  exact ⟨_, _, _, rfl, rfl, v9 σ2 u2⟩
theorem st19 : St19 (InvA ActI) := by
  intro σ τ xs i h
  have same : InvA ActI σ τ := h
  obtain ⟨np, ne, bl, hP, hB, hM, ha⟩ := h
  generalize xs (i + 1) = p0
  generalize xs (i + 2) = p1
  generalize xs (i + 3) = p2
  generalize xs (i + 4) = p3
  unfold W_why M_why
  rw [M_isDay_eq]
  simp only [bind_so, b01_if]
  rcases ask_cases hP hB p0 p1 p2 p3 with ⟨m, x⟩ | ⟨m, c, x⟩ | ⟨m, c, c3, hp, x⟩
  · rw [m, x, bind_pq, bind_so, if_pos rfl, if_neg (by decide)]
    exact ⟨_, _, _, rfl, rfl, same⟩
  · rw [m, x, bind_pq, bind_so, if_neg (show ¬ (1 : Int32) = 0 by decide), if_neg c, if_neg (by decide)]
    exact ⟨_, _, _, rfl, rfl, same⟩
  obtain ⟨σl, τl, σn, τn, r, w, σ1, τ1, v1, v2, v3, v4, v5, v6, v7, v8, v9, v10⟩ := rule_view (s := p0) hP hB hM ha c c3 hp
  rw [m, x, v2, bind_pq, v4, bind_pq, bind_pq, if_pos (by decide), v6, bind_pq, bind_so, if_neg (show ¬ (1 : Int32) = 0 by decide), if_pos c, v1, bind_pq, v3, bind_pq, v5, bind_pq]
  unfold M_placed
  rcases v10 with ⟨y1, -, y2⟩ | ⟨a, c, y1, y2, y3, y4, -⟩
  · rw [if_pos y1, y2, bind_so]
    exact ⟨_, _, _, rfl, rfl, v7⟩
  · rw [if_neg (by rw [y1]; exact nI_ne_m1 (by omega)), y1, (split8 (by omega) y3).2, (split8 (by omega) y3).1, y4, bind_so, show (100 : Int32) = nI 100 from rfl, nI_mul, nI_add]
    exact ⟨_, _, _, rfl, rfl, v7⟩
