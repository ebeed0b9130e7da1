/-! an act stands or is tried: what lasts -/
def Sp (τ τs : XS) (h : Nat) : Prop := τs.1 = τ.1 ∧ τs.2.1 = τ.2.1 ∧ τs.2.2.1 = τ.2.2.1 ∧ τs.2.2.2.2.1 = τ.2.2.2.2.1 ∧ τs.2.2.2.2.2.1 = some h ∧ h < nA τs ∧ nA τ ≤ nA τs ∧ ∀ x, x ≠ h → τs.2.2.2.2.2.2 x = τ.2.2.2.2.2.2 x
theorem spare_of {τ : XS} {na : Nat} {hh : Nat → Nat} (hna : na ≤ 8) (hrow : ∀ a, a < na → hh a < nA τ) (hs : ∀ s, τ.2.2.2.2.2.1 = some s → s < nA τ ∧ ∀ a, a < na → hh a ≠ s) (hr : okR τ) (hN : nA τ ≤ na + 1) (hN0 : τ.2.2.2.2.2.1 = none → nA τ ≤ na) : ∃ h τs, Lw_spareAct τ = some (some h, τs) ∧ Sp τ τs h ∧ nA τs ≤ na + 1 ∧ ∀ a, a < na → hh a ≠ h := by
  unfold Lw_spareAct
  cases e : τ.2.2.2.2.2.1 with
  | some s =>
    obtain ⟨s1, s2⟩ := hs s e
    exact ⟨s, τ, rfl, ⟨rfl, rfl, rfl, rfl, e, s1, Nat.le_refl _, fun _ _ => rfl⟩, hN, s2⟩
  | none =>
    have := hN0 e
    refine ⟨nA τ, newA τ, ?_, ⟨rfl, rfl, rfl, rfl, rfl, Nat.lt_succ_self _, Nat.le_succ _, fun x hx => va_up_ne _ _ hx⟩, ?_, fun a ha => by have := hrow a ha; omega⟩
    · show (@ite _ (okR τ ∧ nA τ < 1000) (Classical.propDecidable _) (some (some (nA τ), newA τ)) none) = _
      exact if_pos ⟨hr, by omega⟩
    · show nA τ + 1 ≤ na + 1
      omega
def mixM (σ σ' : MS) : MS := (fun j => if j = 15 ∨ j = 16 then σ'.1 j else σ.1 j, fun r => if 17 ≤ r ∧ r ≤ 25 then σ'.2.1 r else σ.2.1 r, σ.2.2)
def mixX (τ τ' : XS) : XS := (fun j => if j = 302 ∨ j = 701 ∨ j = 702 ∨ j = 704 then τ'.1 j else τ.1 j, fun r => if r = 303 ∨ r = 703 then τ'.2.1 r else τ.2.1 r, τ.2.2.1, τ'.2.2.2)
theorem mix_same {σ σ' : MS} {τ τ' : XS} (m1 : ∀ j, j ≠ 15 → j ≠ 16 → j ≠ 45 → j ≠ 46 → j ≠ 47 → j ≠ 48 → σ'.1 j = σ.1 j) (m2 : ∀ r, (r < 17 ∨ 25 < r) → r ≠ 43 → r ≠ 44 → r ≠ 49 → σ'.2.1 r = σ.2.1 r) (m3 : σ'.2.2 = σ.2.2) (x1 : ∀ j, j ≠ 302 → j ≠ 701 → j ≠ 702 → j ≠ 704 → j ≠ 307 → j ≠ 308 → j ≠ 309 → τ'.1 j = τ.1 j) (x2 : ∀ r, r ≠ 303 → r ≠ 703 → r ≠ 206 → r ≠ 305 → r ≠ 306 → r ≠ 401 → r ≠ 402 → r ≠ 403 → r ≠ 404 → τ'.2.1 r = τ.2.1 r) (x3 : τ'.2.2.1 = τ.2.2.1) : SameM (mixM σ σ') σ' ∧ SameX (mixX τ τ') τ' := by
  refine ⟨⟨fun j a b c d => ?_, fun r a b c => ?_, m3⟩, ⟨fun j a b c => ?_, fun r a b c d e f g => ?_, ?_⟩⟩
  · show σ'.1 j = if j = 15 ∨ j = 16 then σ'.1 j else σ.1 j
    by_cases q : j = 15 ∨ j = 16
    · rw [if_pos q]
    · rw [if_neg q]; exact m1 j (fun e => q (Or.inl e)) (fun e => q (Or.inr e)) a b c d
  · show σ'.2.1 r = if 17 ≤ r ∧ r ≤ 25 then σ'.2.1 r else σ.2.1 r
    by_cases q : 17 ≤ r ∧ r ≤ 25
    · rw [if_pos q]
    · rw [if_neg q]; exact m2 r (by omega) a b c
  · show τ'.1 j = if j = 302 ∨ j = 701 ∨ j = 702 ∨ j = 704 then τ'.1 j else τ.1 j
    by_cases q : j = 302 ∨ j = 701 ∨ j = 702 ∨ j = 704
    · rw [if_pos q]
    · rw [if_neg q]; exact x1 j (by omega) (by omega) (by omega) (by omega) a b c
  · show τ'.2.1 r = if r = 303 ∨ r = 703 then τ'.2.1 r else τ.2.1 r
    by_cases q : r = 303 ∨ r = 703
    · rw [if_pos q]
    · rw [if_neg q]; exact x2 r (by omega) (by omega) a b c d e f g
  · show τ'.2.2 = (τ.2.2.1, τ'.2.2.2)
    rw [← x3]
theorem PplI.mix {σ σ' : MS} {τ τ' : XS} {np : Nat} (h : PplI σ τ np) : PplI (mixM σ σ') (mixX τ τ') np := h
theorem BkI.mix {σ σ' : MS} {τ τ' : XS} {np ne : Nat} {bl : List Nat} (h : BkI σ τ np ne bl) : BkI (mixM σ σ') (mixX τ τ') np ne bl := h
theorem MisI.mix {σ σ' : MS} {τ τ' : XS} {np nt : Nat} (h : MisI σ τ np) (h1 : nt ≤ 200) (h2 : σ'.1 15 = nI nt) (h3 : τ'.1 701 = nI nt) : MisI (mixM σ σ') (mixX τ τ') np := by
  obtain ⟨m1, m2, m3, m4, m5, m6, m7, m8, m9, m10, m11, m12, m13, m14, m15, m16, m17, m18, m19⟩ := h
  exact ⟨⟨nt, h1, h2, h3⟩, m2, m3, m4, m5, m6, m7, m8, m9, m10, m11, m12, m13, m14, m15, m16, m17, m18, m19⟩
/-- the acts that stood still stand -/
theorem acts_old {σ σF : MS} {τ τF : XS} {na h : Nat} {hh : Nat → Nat} {od : List Nat} (A : ActsR σ τ na hh od) (hna : na ≤ 8) (hne : ∀ a, a < na → hh a ≠ h) (f17 : ∀ a, a < na → σF.2.1 17 a = σ.2.1 17 a) (f18 : ∀ i, i ≠ na → σF.2.1 18 i = σ.2.1 18 i ∧ σF.2.1 19 i = σ.2.1 19 i ∧ σF.2.1 25 i = σ.2.1 25 i) (f20 : ∀ i, (i < 8 * na ∨ 8 * na + 8 ≤ i) → σF.2.1 20 i = σ.2.1 20 i ∧ σF.2.1 21 i = σ.2.1 21 i ∧ σF.2.1 23 i = σ.2.1 23 i ∧ σF.2.1 24 i = σ.2.1 24 i) (f22 : ∀ i, (i < 200 * na ∨ 200 * na + 200 ≤ i) → σF.2.1 22 i = σ.2.1 22 i) (fx : ∀ x, x ≠ h → τF.2.2.2.2.2.2 x = τ.2.2.2.2.2.2 x) : ∀ a, a < na → tF τF (hh a) 0 = σF.2.1 17 a ∧ DayOk (σF.2.1 17 a) ∧ ∃ nc, nc ≤ 8 ∧ σF.2.1 18 a = nI nc ∧ tF τF (hh a) 2 = nI nc ∧ ((tF τF (hh a) 1 = 0) ↔ (σF.2.1 19 a = 0)) ∧ ∀ c, c < nc → tA τF (hh a) 3 c = σF.2.1 20 (8 * a + c) ∧ tA τF (hh a) 7 c = σF.2.1 21 (8 * a + c) ∧ (0 ≤ (σF.2.1 21 (8 * a + c)).toInt ∧ (σF.2.1 21 (8 * a + c)).toInt ≤ 10000) ∧ ClauseI σF τF a c (hh a) := by
  obtain ⟨g1, g2, g3, g4, g5, g6, g7, g8, g9⟩ := A
  intro a ha
  have eF : ∀ j, tF τF (hh a) j = tF τ (hh a) j := fun j => by unfold tF; rw [fx _ (hne a ha)]
  have eA : ∀ j, tA τF (hh a) j = tA τ (hh a) j := fun j => by unfold tA; rw [fx _ (hne a ha)]
  obtain ⟨y1, y2, nc, y3, y4, y5, y6, y7⟩ := g9 a ha
  obtain ⟨z1, z2, z3⟩ := f18 a (by omega)
  refine ⟨by rw [eF, f17 a ha]; exact y1, by rw [f17 a ha]; exact y2, nc, y3, by rw [z1]; exact y4, by rw [eF]; exact y5, by rw [eF, z2]; exact y6, fun c hc => ?_⟩
  obtain ⟨u1, u2, u3, u4⟩ := y7 c hc
  obtain ⟨w1, w2, w3, w4⟩ := f20 (8 * a + c) (Or.inl (by omega))
  exact ⟨by rw [eA, w1]; exact u1, by rw [eA, w2]; exact u2, by rw [w2]; exact u3, u4.own (fun i hi => f22 _ (Or.inl (by omega))) w3 w4 z3 eA⟩
/-- nothing but the spare act's own has changed -/
theorem acts_kept {σ σF : MS} {τ τF : XS} {na h : Nat} {hh : Nat → Nat} {od : List Nat} (A : ActsR σ τ na hh od) (hna : na ≤ 8) (hne : ∀ a, a < na → hh a ≠ h) (f17 : σF.2.1 17 = σ.2.1 17) (f18 : ∀ i, i ≠ na → σF.2.1 18 i = σ.2.1 18 i ∧ σF.2.1 19 i = σ.2.1 19 i ∧ σF.2.1 25 i = σ.2.1 25 i) (f20 : ∀ i, (i < 8 * na ∨ 8 * na + 8 ≤ i) → σF.2.1 20 i = σ.2.1 20 i ∧ σF.2.1 21 i = σ.2.1 21 i ∧ σF.2.1 23 i = σ.2.1 23 i ∧ σF.2.1 24 i = σ.2.1 24 i) (f22 : ∀ i, (i < 200 * na ∨ 200 * na + 200 ≤ i) → σF.2.1 22 i = σ.2.1 22 i) (fx : ∀ x, x ≠ h → τF.2.2.2.2.2.2 x = τ.2.2.2.2.2.2 x) (x1 : τF.1 302 = τ.1 302) (x2 : τF.2.1 303 = τ.2.1 303) (x3 : τF.2.2.2.2.1 = τ.2.2.2.2.1) (x4 : nA τ ≤ nA τF) : ActsR σF τF na hh od := by
  have old := acts_old A hna hne (fun a _ => by rw [f17]) f18 f20 f22 fx
  obtain ⟨g1, g2, g3, g4, g5, g6, g7, g8, g9⟩ := A
  exact ⟨g1, x1.trans g2, fun a ha => ⟨by rw [x3]; exact (g3 a ha).1, by have := (g3 a ha).2; omega⟩, g4, fun k q => by rw [x2]; exact g5 k q, g6, by rw [f17]; exact g7, g8, old⟩
/-- one more act -/
theorem acts_more {σ σ' σF : MS} {τ τ' τF : XS} {na h n nc : Nat} {hh : Nat → Nat} {od od' : List Nat} {T f : Nat → Int32} {cd : List Int32} {p : Int32} (A : ActsR σ τ na hh od) (hna : na ≤ 8) (hne : ∀ a, a < na → hh a ≠ h) (fb : FB na σ σ') (hT : TpOK n T) (hp : DayOk p)
    (g1 : nc ≤ 8) (g2 : CFs na h n T cd σ' τ' nc) (g3 : σ'.2.1 18 na = nI nc) (g4 : tF τ' h 2 = nI nc) (g5 : tF τ' h 1 = 0 ↔ σ'.2.1 19 na = 0) (g6 : ∀ c, c < 8 → tA τ' h 7 c = 10000) (g7 : ∀ i x, cd[i]? = some x → tA τ' h 8 i = x) (g8 : cd.length ≤ n) (g9 : σ'.2.1 25 na = nI n) (g10 : ∀ i, i < n → σ'.2.1 22 (200 * na + i) = T i)
    (e17 : σF.2.1 17 = upd (σ'.2.1 17) na p) (eR : ∀ r, r ≠ 17 → σF.2.1 r = σ'.2.1 r) (x1 : τF.1 302 = nI (na + 1)) (x2 : τF.2.1 303 = f) (x3 : τF.2.2.2.2.1 = va_up τ.2.2.2.2.1 na (some h)) (x4 : nA τ ≤ nA τF) (x5 : h < nA τF) (fx : ∀ x, x ≠ h → τF.2.2.2.2.2.2 x = τ.2.2.2.2.2.2 x) (fF : ∀ j, j ≠ 0 → tF τF h j = tF τ' h j) (f0 : tF τF h 0 = p) (fA : ∀ j, tA τF h j = tA τ' h j)
    (o1 : od'.length = na + 1) (o2 : ∀ (k : Nat) (q : k < od'.length), f k = nI od'[k]) (o3 : od'.Nodup) (o4 : od'.Pairwise (ltD (upd (σ'.2.1 17) na p))) (o5 : ∀ a, a ∈ od' ↔ a < na + 1) : ActsR σF τF (na + 1) (fun a => if a = na then h else hh a) od' := by
  have s17 : σ'.2.1 17 = σ.2.1 17 := fb.2.1 17 (by decide) (by decide) (by decide) (by decide) (by decide) (by decide) (by decide) (by decide)
  have old := acts_old (σF := σF) (τF := τF) A hna hne (fun a ha => by rw [e17, upd_no (by omega), s17]) (fun i q => by rw [eR 18 (by decide), eR 19 (by decide), eR 25 (by decide)]; exact fb.2.2.1 i q) (fun i q => by rw [eR 20 (by decide), eR 21 (by decide), eR 23 (by decide), eR 24 (by decide)]; exact fb.2.2.2.1 i q) (fun i q => by rw [eR 22 (by decide)]; exact fb.2.2.2.2.1 i q) fx
  obtain ⟨a1, a2, a3, a4, a5, a6, a7, a8, a9⟩ := A
  refine ⟨by omega, x1, fun a ha => ?_, o1, fun k q => by rw [x2]; exact o2 k q, o3, by rw [e17]; exact o4, o5, fun a ha => ?_⟩
  · by_cases c : a = na
    · subst c
      simp only [if_true]
      exact ⟨by rw [x3]; exact va_up_self _ _ _, x5⟩
    · simp only [if_neg c]
      exact ⟨by rw [x3, va_up_ne _ _ c]; exact (a3 a (by omega)).1, by have := (a3 a (by omega)).2; omega⟩
  · by_cases c : a = na
    · subst c
      simp only [if_true]
      refine ⟨by rw [f0, e17, upd_at], by rw [e17, upd_at]; exact hp, nc, g1, by rw [eR 18 (by decide)]; exact g3, by rw [fF 2 (by decide)]; exact g4, by rw [fF 1 (by decide), eR 19 (by decide)]; exact g5, fun c hc => ?_⟩
      obtain ⟨u1, u2, -⟩ := g2 c hc
      refine ⟨by rw [fA, eR 20 (by decide)]; exact u1, by rw [fA, eR 21 (by decide), u2]; exact g6 c (by omega), by rw [eR 21 (by decide), u2]; decide, ?_⟩
      exact (clause_new (by omega) hT g2 hc g1 g9 g10 g7 g8).own (fun i hi => by rw [eR 22 (by decide)]) (by rw [eR 23 (by decide)]) (by rw [eR 24 (by decide)]) (by rw [eR 25 (by decide)]) fA
    · simp only [if_neg c]
      exact old a (by omega)
theorem st15 : St15 (InvA ActI) := by
  intro σ τ xs i h
  have same : InvA ActI σ τ := h
  obtain ⟨np, ne, bl, hP, hB, hM, na, hh, od, a1, a2, a3, a4, a5, a6, a7, a8, a9⟩ := h
  have hM' := hM
  obtain ⟨⟨nt, t1, t2, t3⟩, m2, m3, -⟩ := hM'
  generalize xs (i + 1) = p
  unfold W_text M_text
  rw [W_isDay_eq, M_isDay_eq]
  simp only [bind_so, b01_if]
  by_cases c : 0 ≤ p ∧ p ≤ 9999
  case neg =>
    rw [if_neg c, if_neg c]
    exact ⟨_, _, _, rfl, rfl, same⟩
  rw [if_pos c, if_pos c, a3.2.1, a2]
  have hp : DayOk p := by
    have c1 := i32_le.mp c.1
    have c2 := i32_le.mp c.2
    rw [show (0 : Int32).toInt = 0 from rfl] at c1
    rw [show (9999 : Int32).toInt = 9999 from rfl] at c2
    exact ⟨c1, by omega⟩
  by_cases full : na = 8
  · rw [if_neg (fun g => by have := (nI_ltI (b := 8) (by omega) (by decide)).mp g; omega), if_pos (by rw [full]; rfl)]
    exact ⟨_, _, _, rfl, rfl, same⟩
  rw [if_pos (show nI na < 8 from nI_lt (b := 8) (by omega) (by decide)), if_neg (show ¬ nI na = 8 from fun g => full ((nI_eq (b := 8) (by omega) (by decide)).mp g))]
  obtain ⟨h, τs, s1, sp, s2, s3⟩ := spare_of a1 (fun a ha => (a3.2.2.1 a ha).2) a5 a7 a8 a9
  obtain ⟨p1, p2, p3, p4, p5, p6, p7, p8⟩ := sp
  have hT : TpOK nt (σ.2.1 14) := ⟨t1, m3⟩
  rw [s1, bind_pq]
  rcases act_top (a := na) (h := h) (n := nt) (σ := σ) (τ := τs) (by omega) p6 t1 t2 (by rw [p1]; exact t3) (by rw [p2]; exact m2) m3 with ⟨k', σ', τ', r1, r2, r3, r4, r5, r6⟩ | ⟨nc, cd, σ', τ', r1, r2, r3, r4, r5, r6, r7, r8, r9, r10, r11, r12, r13, r14⟩
  · rw [r2, r5, bind_pq, bind_pq, if_pos rfl, if_neg (nI_not_lt0 (by omega)), show (sI σ' 15 0).1 47 = nI k' from (sI_ne (by decide)).trans r4]
    obtain ⟨f1, f2, f3, f4, f5, f6⟩ := r3
    obtain ⟨q1, q2, q3, q4, q5, q6, q7⟩ := r6
    refine ⟨_, _, _, rfl, rfl, np, ne, bl, ?_⟩
    obtain ⟨sM, sX⟩ := mix_same (σ := σ) (σ' := sI σ' 15 0) (τ := τ) (τ' := xI τ' 701 0) (fun j b1 _ _ b4 b5 b6 => (sI_ne b1).trans (f1 j b4 b5 b6)) (fun r b1 _ _ _ => f2 r (by omega) (by omega) (by omega) (by omega) (by omega) (by omega) (by omega) (by omega)) f6 (fun j b1 b2 b3 b4 _ _ _ => (xI_ne b2).trans ((q1 j b3 b4).trans (by rw [p1]))) (fun r _ b2 _ _ _ _ _ _ _ => (q2 r b2).trans (by rw [p2])) (q3.trans p3)
    refine ⟨hP.mix.same sM sX, hB.mix.same sM sX, (hM.mix (nt := 0) (by decide) sI_get xI_get).same sM sX, na, hh, od, a1, ((sI_ne (by decide)).trans (f1 16 (by decide) (by decide) (by decide))).trans a2, ?_, a4, ?_, ?_, ?_, ?_, ?_⟩
    · exact acts_kept a3 a1 s3 (f2 17 (by decide) (by decide) (by decide) (by decide) (by decide) (by decide) (by decide) (by decide)) f3 f4 f5 (fun x hx => (q7 x hx).trans (p8 x hx)) ((xI_ne (by decide)).trans ((q1 302 (by decide) (by decide)).trans (by rw [p1]))) ((q2 303 (by decide)).trans (by rw [p2])) (q5.trans p4) (by show nA τ ≤ nA τ'; rw [q4]; exact p7)
    · intro s hs
      have : some h = some s := by rw [← p5, ← q6]; exact hs
      cases this
      exact ⟨by show h < nA τ'; rw [q4]; exact p6, s3⟩
    · intro a b1 b2
      show τ'.2.2.2.2.1 a = none
      rw [q5, p4]; exact a6 a b1 b2
    · intro j x hx
      have : τ.2.2.2.2.1 j = some x := by rw [← p4, ← q5]; exact hx
      have := a7 j x this
      show x < nA τ'
      rw [q4]; omega
    · show nA τ' ≤ na + 1
      rw [q4]; exact s2
    · intro g
      have : τ'.2.2.2.2.2.1 = none := g
      rw [q6, p5] at this
      cases this
  · have e16 : (sI σ' 15 0).1 16 = nI na := ((sI_ne (by decide)).trans (r3.1 16 (by decide) (by decide) (by decide))).trans a2
    have f17 : σ'.2.1 17 = σ.2.1 17 := r3.2.1 17 (by decide) (by decide) (by decide) (by decide) (by decide) (by decide) (by decide) (by decide)
    have Da : ∀ a, a < na → upd (σ'.2.1 17) na p a = σ.2.1 17 a := fun a ha => by rw [upd_no (by omega), f17]
    obtain ⟨f, od', u1, u2, u3, u4, u5, u6⟩ := addAct_spec (na := na) (h := h) (D := upd (σ'.2.1 17) na p) (τ := xI τ' 701 0) (hh := hh) (od := od) a1 ((xI_ne (by decide)).trans ((r5.1 302 (by decide) (by decide)).trans (by rw [p1]; exact a3.2.1))) (by show h < nA τ'; rw [r5.2.2.2.1]; exact p6) (fun a ha => ⟨by show τ'.2.2.2.2.1 a = _; rw [r5.2.2.2.2.1, p4]; exact (a3.2.2.1 a ha).1, by show hh a < nA τ'; rw [r5.2.2.2.1]; have := (a3.2.2.1 a ha).2; omega, s3 a ha⟩) a3.2.2.2.1 (fun k q => by show τ'.2.1 303 k = _; rw [r5.2.1 303 (by decide), p2]; exact a3.2.2.2.2.1 k q) (List.Pairwise.imp_of_mem (fun {x y} hx hy hxy => by
        unfold ltD at hxy ⊢
        rw [Da x ((a3.2.2.2.2.2.2.2.1 x).mp hx), Da y ((a3.2.2.2.2.2.2.2.1 y).mp hy)]
        exact hxy) a3.2.2.2.2.2.2.1) a3.2.2.2.2.2.2.2.1 (fun a ha => by
        rw [Da a ha]
        have : tF (xI τ' 701 0) (hh a) 0 = tF τ (hh a) 0 := by
          show (τ'.2.2.2.2.2.2 (hh a)).1 0 = (τ.2.2.2.2.2.2 (hh a)).1 0
          rw [r5.2.2.2.2.2.2 _ (s3 a ha), p8 _ (s3 a ha)]
        rw [this]; exact (a3.2.2.2.2.2.2.2.2 a ha).1)
    rw [upd_at] at u1
    rw [r2, r4, bind_pq, bind_pq, if_neg n10, if_pos (show (-1 : Int32) < 0 by decide), u1, bind_pq, e16, wr_nI (by omega) (by decide), cl_nI (by omega)]
    have e16' : (sA (sI σ' 15 0) 17 (upd ((sI σ' 15 0).2.1 17) na p)).1 16 = nI na := e16
    rw [e16', nI_1]
    obtain ⟨σF, hF⟩ : ∃ s, s = sI (sA (sI σ' 15 0) 17 (upd ((sI σ' 15 0).2.1 17) na p)) 16 (nI (na + 1)) := ⟨_, rfl⟩
    obtain ⟨τF, hX⟩ : ∃ t, t = xP (xI (xR (xA (xTI (xI τ' 701 0) h 0 p) 303 f) (va_up (xI τ' 701 0).2.2.2.2.1 na (some h))) 302 (nI (na + 1))) none := ⟨_, rfl⟩
    have F16 : σF.1 16 = nI (na + 1) := by rw [hF]; exact sI_get
    have X302 : τF.1 302 = nI (na + 1) := by rw [hX]; show (va_up (xI τ' 701 0).1 302 (nI (na + 1))) 302 = _; exact va_up_self _ _ _
    rw [← hF, ← hX, F16, X302]
    refine ⟨_, _, _, rfl, rfl, np, ne, bl, ?_⟩
    obtain ⟨f1, f2, f3, f4, f5, f6⟩ := id r3
    obtain ⟨q1, q2, q3, q4, q5, q6, q7⟩ := id r5
    have M1 : ∀ j, j ≠ 15 → j ≠ 16 → σF.1 j = σ'.1 j := fun j b1 b2 => by rw [hF, sI_ne b2, sA_1, sI_ne b1]
    have M2 : ∀ r, r ≠ 17 → σF.2.1 r = σ'.2.1 r := fun r b => by rw [hF, sI_2, sA_ne b, sI_2]
    have M17 : σF.2.1 17 = upd (σ'.2.1 17) na p := by rw [hF, sI_2, sA_get, sI_2]
    have X1 : ∀ j, j ≠ 302 → j ≠ 701 → τF.1 j = τ'.1 j := fun j b1 b2 => by
      rw [hX]
      exact (xI_ne b1).trans (xI_ne b2)
    have X2 : ∀ r, r ≠ 303 → τF.2.1 r = τ'.2.1 r := fun r b => by rw [hX]; exact xA_ne b
    have X303 : τF.2.1 303 = f := by rw [hX]; show (va_up τ'.2.1 303 f) 303 = _; exact va_up_self _ _ _
    have XN : nA τF = nA τ' := by rw [hX]; rfl
    have XR' : τF.2.2.2.2.1 = va_up τ.2.2.2.2.1 na (some h) := by
      have : τF.2.2.2.2.1 = va_up τ'.2.2.2.2.1 na (some h) := by rw [hX]; rfl
      rw [this, q5, p4]
    have XP' : τF.2.2.2.2.2.1 = none := by rw [hX]; rfl
    have XT : τF.2.2.2.2.2.2 = (xTI τ' h 0 p).2.2.2.2.2.2 := by rw [hX]; rfl
    obtain ⟨sM, sX⟩ := mix_same (σ := σ) (σ' := σF) (τ := τ) (τ' := τF) (fun j b1 b2 _ b4 b5 b6 => (M1 j b1 b2).trans (f1 j b4 b5 b6)) (fun r b1 _ _ _ => (M2 r (by omega)).trans (f2 r (by omega) (by omega) (by omega) (by omega) (by omega) (by omega) (by omega) (by omega))) (by rw [hF]; exact f6) (fun j b1 b2 b3 b4 _ _ _ => (X1 j b1 b2).trans ((q1 j b3 b4).trans (by rw [p1]))) (fun r b1 b2 _ _ _ _ _ _ _ => (X2 r b1).trans ((q2 r b2).trans (by rw [p2]))) (by rw [hX]; exact q3.trans p3)
    have F15 : σF.1 15 = nI 0 := by rw [hF, sI_ne (by decide), sA_1, sI_get]; rfl
    have X701 : τF.1 701 = nI 0 := by rw [hX]; show (va_up (va_up τ'.1 701 0) 302 (nI (na + 1))) 701 = _; rw [va_up_ne _ _ (by decide), va_up_self]; rfl
    refine ⟨hP.mix.same sM sX, hB.mix.same sM sX, (hM.mix (nt := 0) (by decide) F15 X701).same sM sX, na + 1, (fun a => if a = na then h else hh a), od', by omega, F16, ?_, ?_, ?_, ?_, ?_, ?_, ?_⟩
    · exact acts_more a3 a1 s3 r3 hT hp r1 r6 r7 r8 r9 r10 r11 r12 r13 r14 M17 M2 X302 X303 XR' (by rw [XN, q4]; exact p7) (by rw [XN, q4]; exact p6) (fun x hx => by rw [XT, TI_o hx, q7 x hx, p8 x hx]) (fun j hj => by
        have : tF τF h j = tF (xTI τ' h 0 p) h j := by unfold tF; rw [XT]
        rw [this, TI_Fn hj]) (by
        have : tF τF h 0 = tF (xTI τ' h 0 p) h 0 := by unfold tF; rw [XT]
        rw [this, TI_F]) (fun j => by
        have : tA τF h j = tA (xTI τ' h 0 p) h j := by unfold tA; rw [XT]
        rw [this, TI_A]) u2 u3 u4 u5 u6
    · intro a b ha hb hab
      by_cases ca : a = na
      · by_cases cb : b = na
        · rw [ca, cb]
        · simp only [if_pos ca, if_neg cb] at hab
          exact absurd hab.symm (s3 b (by omega))
      · by_cases cb : b = na
        · simp only [if_neg ca, if_pos cb] at hab
          exact absurd hab (s3 a (by omega))
        · simp only [if_neg ca, if_neg cb] at hab
          exact a4 a b (by omega) (by omega) hab
    · intro s hs
      rw [XP'] at hs
      cases hs
    · intro a b1 b2
      rw [XR', va_up_ne _ _ (by omega)]
      exact a6 a (by omega) b2
    · intro j x hx
      rw [XR'] at hx
      rw [XN, q4]
      by_cases cj : j = na
      · rw [cj, va_up_self] at hx
        cases hx
        exact p6
      · rw [va_up_ne _ _ cj] at hx
        have := a7 j x hx
        omega
    · rw [XN, q4]; omega
    · intro _
      rw [XN, q4]; omega
