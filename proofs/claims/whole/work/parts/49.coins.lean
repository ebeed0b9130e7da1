/-! the coins' view: what the years' coins go by, whatever the scratch fields hold -/
def Rm (σ σ' : MS) : Prop := (∀ j, j ≠ 46 → j ≠ 47 → j ≠ 48 → σ'.1 j = σ.1 j) ∧ (∀ j, j ≠ 49 → σ'.2.1 j = σ.2.1 j) ∧ σ'.2.2 = σ.2.2
def Rx (τ τ' : XS) : Prop := (∀ j, j ≠ 307 → j ≠ 308 → j ≠ 309 → τ'.1 j = τ.1 j) ∧ (∀ j, j ≠ 305 → j ≠ 306 → τ'.2.1 j = τ.2.1 j) ∧ τ'.2.2 = τ.2.2
theorem Rm.refl (σ : MS) : Rm σ σ := ⟨fun _ _ _ _ => rfl, fun _ _ => rfl, rfl⟩
theorem Rx.refl (τ : XS) : Rx τ τ := ⟨fun _ _ _ _ => rfl, fun _ _ _ => rfl, rfl⟩
theorem Rm.trans {a b c : MS} (h : Rm a b) (g : Rm b c) : Rm a c := ⟨fun j h1 h2 h3 => (g.1 j h1 h2 h3).trans (h.1 j h1 h2 h3), fun j h1 => (g.2.1 j h1).trans (h.2.1 j h1), g.2.2.trans h.2.2⟩
theorem Rx.trans {a b c : XS} (h : Rx a b) (g : Rx b c) : Rx a c := ⟨fun j h1 h2 h3 => (g.1 j h1 h2 h3).trans (h.1 j h1 h2 h3), fun j h1 h2 => (g.2.1 j h1 h2).trans (h.2.1 j h1 h2), g.2.2.trans h.2.2⟩
theorem Rm.symm {a b : MS} (h : Rm a b) : Rm b a := ⟨fun j h1 h2 h3 => (h.1 j h1 h2 h3).symm, fun j h1 => (h.2.1 j h1).symm, h.2.2.symm⟩
theorem Rx.symm {a b : XS} (h : Rx a b) : Rx b a := ⟨fun j h1 h2 h3 => (h.1 j h1 h2 h3).symm, fun j h1 h2 => (h.2.1 j h1 h2).symm, h.2.2.symm⟩
theorem Lk.rm {a b : MS} (h : Lk a b) : Rm a b := ⟨h.1, fun j _ => by rw [h.2], by rw [h.2]⟩
theorem Lr.rx {a b : XS} (h : Lr a b) : Rx a b := ⟨h.1, fun j _ h2 => h.2.1 j h2, h.2.2⟩
theorem Rm.nm {σ : MS} (f : Nat → Int32) : Rm σ (sA σ 49 f) := ⟨fun _ _ _ _ => rfl, fun j h => sA_ne h, rfl⟩
theorem Rx.nm {τ : XS} (g : Nat → Int32) : Rx τ (xA τ 305 g) := ⟨fun _ _ _ _ => rfl, fun j h _ => xA_ne h, rfl⟩
theorem Rm.same {a b : MS} (h : Rm a b) : SameM a b := ⟨fun j _ h2 h3 h4 => h.1 j h2 h3 h4, fun j _ _ h3 => h.2.1 j h3, h.2.2⟩
theorem Rx.same {a b : XS} (h : Rx a b) : SameX a b := ⟨h.1, fun j _ h2 h3 _ _ _ _ => h.2.1 j h2 h3, h.2.2⟩
theorem Rm.ex {σ σ' : MS} (h : Rm σ σ') : σ' = sA (sI (sI (sI σ 46 (σ'.1 46)) 47 (σ'.1 47)) 48 (σ'.1 48)) 49 (σ'.2.1 49) := by
  refine Prod.ext (funext fun j => ?_) (Prod.ext (funext fun j => ?_) h.2.2)
  · show σ'.1 j = va_up (va_up (va_up σ.1 46 (σ'.1 46)) 47 (σ'.1 47)) 48 (σ'.1 48) j
    unfold va_up
    by_cases e1 : j = 48
    · rw [if_pos e1, e1]
    rw [if_neg e1]
    by_cases e2 : j = 47
    · rw [if_pos e2, e2]
    rw [if_neg e2]
    by_cases e3 : j = 46
    · rw [if_pos e3, e3]
    rw [if_neg e3]
    exact h.1 j e3 e2 e1
  · show σ'.2.1 j = va_up σ.2.1 49 (σ'.2.1 49) j
    unfold va_up
    by_cases e1 : j = 49
    · rw [if_pos e1, e1]
    rw [if_neg e1]
    exact h.2.1 j e1
theorem Rx.ex {τ τ' : XS} (h : Rx τ τ') : τ' = xA (xA (xI (xI (xI τ 307 (τ'.1 307)) 308 (τ'.1 308)) 309 (τ'.1 309)) 305 (τ'.2.1 305)) 306 (τ'.2.1 306) := by
  refine Prod.ext (funext fun j => ?_) (Prod.ext (funext fun j => ?_) h.2.2)
  · show τ'.1 j = va_up (va_up (va_up τ.1 307 (τ'.1 307)) 308 (τ'.1 308)) 309 (τ'.1 309) j
    unfold va_up
    by_cases e1 : j = 309
    · rw [if_pos e1, e1]
    rw [if_neg e1]
    by_cases e2 : j = 308
    · rw [if_pos e2, e2]
    rw [if_neg e2]
    by_cases e3 : j = 307
    · rw [if_pos e3, e3]
    rw [if_neg e3]
    exact h.1 j e3 e2 e1
  · show τ'.2.1 j = va_up (va_up τ.2.1 305 (τ'.2.1 305)) 306 (τ'.2.1 306) j
    unfold va_up
    by_cases e1 : j = 306
    · rw [if_pos e1, e1]
    rw [if_neg e1]
    by_cases e2 : j = 305
    · rw [if_pos e2, e2]
    rw [if_neg e2]
    exact h.2.1 j e2 e1
theorem Vw.rm {σ σ' : MS} {τ : XS} {K np : Nat} (h : Vw σ τ K np) (hm : Rm σ σ') : Vw σ' τ K np := by
  have e := hm.ex
  generalize σ'.1 46 = a at e
  generalize σ'.1 47 = b at e
  generalize σ'.1 48 = c at e
  generalize σ'.2.1 49 = f at e
  subst e
  exact h
theorem Vw.rx {σ : MS} {τ τ' : XS} {K np : Nat} (h : Vw σ τ K np) (hx : Rx τ τ') : Vw σ τ' K np := by
  have e := hx.ex
  generalize τ'.1 307 = a at e
  generalize τ'.1 308 = b at e
  generalize τ'.1 309 = c at e
  generalize τ'.2.1 305 = f at e
  generalize τ'.2.1 306 = g at e
  subst e
  exact h
/-! what answers alike on any scratch -/
def UM {α : Type} (σ : MS) (f : MS → Option α) (v : α) : Prop := ∀ σ', Rm σ σ' → f σ' = some v
def UX {α : Type} (τ : XS) (f : XS → Option α) (v : α) : Prop := ∀ τ', Rx τ τ' → f τ' = some v
def QM {α : Type} (σ : MS) (f : MS → Option (α × MS)) (v : α) : Prop := ∀ σ', Rm σ σ' → ∃ σ1, f σ' = some (v, σ1) ∧ Rm σ σ1
def QX {α : Type} (τ : XS) (f : XS → Option (α × XS)) (v : α) : Prop := ∀ τ', Rx τ τ' → ∃ τ1, f τ' = some (v, τ1) ∧ Rx τ τ1
theorem UM.at {α : Type} {σ σ' : MS} {f : MS → Option α} {v : α} (h : UM σ f v) (hm : Rm σ σ') : UM σ' f v := fun s g => h s (hm.trans g)
theorem UX.at {α : Type} {τ τ' : XS} {f : XS → Option α} {v : α} (h : UX τ f v) (hx : Rx τ τ') : UX τ' f v := fun s g => h s (hx.trans g)
theorem QM.at {α : Type} {σ σ' : MS} {f : MS → Option (α × MS)} {v : α} (h : QM σ f v) (hm : Rm σ σ') : QM σ' f v := fun s g => by
  obtain ⟨s1, h1, h2⟩ := h s (hm.trans g)
  exact ⟨s1, h1, hm.symm.trans h2⟩
theorem QX.at {α : Type} {τ τ' : XS} {f : XS → Option (α × XS)} {v : α} (h : QX τ f v) (hx : Rx τ τ') : QX τ' f v := fun s g => by
  obtain ⟨s1, h1, h2⟩ := h s (hx.trans g)
  exact ⟨s1, h1, hx.symm.trans h2⟩
theorem UM.uniq {α : Type} {σ : MS} {f : MS → Option α} {v v' : α} (h : UM σ f v) (h' : UM σ f v') : v = v' := Option.some.inj ((h σ (Rm.refl σ)).symm.trans (h' σ (Rm.refl σ)))
theorem UX.uniq {α : Type} {τ : XS} {f : XS → Option α} {v v' : α} (h : UX τ f v) (h' : UX τ f v') : v = v' := Option.some.inj ((h τ (Rx.refl τ)).symm.trans (h' τ (Rx.refl τ)))
theorem QM.uniq {α : Type} {σ : MS} {f : MS → Option (α × MS)} {v v' : α} (h : QM σ f v) (h' : QM σ f v') : v = v' := by
  obtain ⟨s, a, -⟩ := h σ (Rm.refl σ)
  obtain ⟨s', b, -⟩ := h' σ (Rm.refl σ)
  rw [a] at b
  exact (Prod.mk.inj (Option.some.inj b)).1
theorem QX.uniq {α : Type} {τ : XS} {f : XS → Option (α × XS)} {v v' : α} (h : QX τ f v) (h' : QX τ f v') : v = v' := by
  obtain ⟨s, a, -⟩ := h τ (Rx.refl τ)
  obtain ⟨s', b, -⟩ := h' τ (Rx.refl τ)
  rw [a] at b
  exact (Prod.mk.inj (Option.some.inj b)).1
theorem crossP {V : Type} {F : MS → V → Prop} {G : XS → V → Prop} {σ : MS} {τ : XS} (uF : ∀ s v v', F s v → F s v' → v = v') (uG : ∀ t v v', G t v → G t v' → v = v') (h : ∀ σ' τ', Rm σ σ' → Rx τ τ' → ∃ v, F σ' v ∧ G τ' v) : ∃ v, (∀ σ', Rm σ σ' → F σ' v) ∧ (∀ τ', Rx τ τ' → G τ' v) := by
  obtain ⟨v, h1, h2⟩ := h σ τ (Rm.refl σ) (Rx.refl τ)
  refine ⟨v, fun σ' hm => ?_, fun τ' hx => ?_⟩
  · obtain ⟨v', a, b⟩ := h σ' τ hm (Rx.refl τ)
    rw [uG _ _ _ h2 b]; exact a
  · obtain ⟨v', a, b⟩ := h σ τ' (Rm.refl σ) hx
    rw [uF _ _ _ h1 a]; exact b
theorem crossPP {V : Type} {Q : V → Prop} {f : MS → Option V} {g : XS → Option V} {σ : MS} {τ : XS} (h : ∀ σ' τ', Rm σ σ' → Rx τ τ' → ∃ v, Q v ∧ f σ' = some v ∧ g τ' = some v) : ∃ v, Q v ∧ UM σ f v ∧ UX τ g v := by
  obtain ⟨v, h1, h2, h3⟩ := h σ τ (Rm.refl σ) (Rx.refl τ)
  refine ⟨v, h1, fun σ' hm => ?_, fun τ' hx => ?_⟩
  · obtain ⟨v', -, a, b⟩ := h σ' τ hm (Rx.refl τ)
    rw [h3] at b
    rw [a, ← Option.some.inj b]
  · obtain ⟨v', -, a, b⟩ := h σ τ' (Rm.refl σ) hx
    rw [h2] at a
    rw [b, ← Option.some.inj a]
/-! the steps -/
theorem Tr_stepped_congr {τ τ' : XS} (h1 : τ'.1 905 = τ.1 905) (h2 : τ'.2.1 906 = τ.2.1 906) (h3 : τ'.2.1 907 = τ.2.1 907) : Tr_stepped τ' = Tr_stepped τ := by
  have key : ∀ n, Tr_stepped_L9_r τ' n = Tr_stepped_L9_r τ n := by
    intro n
    induction n with
    | zero => rfl
    | succ n ih =>
      funext a1 a2 a3 a4
      rw [Tr_stepped_L9_r, Tr_stepped_L9_r, h1, h2, h3, ih]
      rfl
  funext s p v
  unfold Tr_stepped Tr_stepped_L9
  rw [key]
def Stq (s : Int32) : Prop := s = 0 ∨ s = 1 ∨ s = 3
def StepV (σ : MS) (τ : XS) : Prop := ∀ s v : Int32, InR v 0 9999 → (Stq s → ∃ w, M_stepped σ s v = some w ∧ Tr_stepped τ (τ.1 207) s v = some w ∧ InR w 0 29997) ∧ (¬ Stq s → Tr_stepped τ (τ.1 207) s v = some v)
theorem StepV.to {σ σ' : MS} {τ τ' : XS} (h : StepV σ τ) (hm : SameM σ σ') (hx : SameX τ τ') : StepV σ' τ' := by
  intro s v hv
  rw [Tr_stepped_congr (hx.1 905 (by decide) (by decide) (by decide)) (hx.2.1 906 (by decide) (by decide) (by decide) (by decide) (by decide) (by decide) (by decide)) (hx.2.1 907 (by decide) (by decide) (by decide) (by decide) (by decide) (by decide) (by decide)), hx.1 207 (by decide) (by decide) (by decide)]
  unfold M_stepped
  rw [hm.2.1 51 (by decide) (by decide) (by decide)]
  exact h s v hv
theorem step1 {v : Int32} (hv : InR v 0 9999) : (v * 100) / 100 = v := by
  obtain ⟨h0, h1⟩ := hv
  apply i32_eq.mpr
  have e : (v * 100).toInt = v.toInt * 100 := by
    rw [Int32.toInt_mul, show (100 : Int32).toInt = 100 from rfl, show (2 : Nat) ^ 32 = 4294967296 from rfl]
    exact Int.bmod_eq_of_le (by omega) (by omega)
  rw [Int32.toInt_div_of_ne_right _ _ (by decide), e, show (100 : Int32).toInt = 100 from rfl, Int.tdiv_eq_ediv_of_nonneg (by omega)]
  omega
theorem MisI.stepV {σ : MS} {τ : XS} {np : Nat} (h : MisI σ τ np) : StepV σ τ := by
  obtain ⟨m1, m2, m3, m4, m5, m6, m7, m8, m9, m10, m11, m12, m13, m14, m15, m16, m17, m18, m19⟩ := h
  intro s v hv
  have t : Tr_stepped τ (τ.1 207) s v = some v := by
    rw [m18]
    exact if_pos rfl
  refine ⟨fun hs => ⟨v, ?_, t, hv.1, by have := hv.2; omega⟩, fun _ => t⟩
  obtain ⟨k, hk, e⟩ : ∃ k : Nat, k < 4 ∧ s = nI k := by
    rcases hs with e | e | e
    · exact ⟨0, by decide, e⟩
    · exact ⟨1, by decide, e⟩
    · exact ⟨3, by decide, e⟩
  unfold M_stepped
  rw [e, rd_nI hk (by decide), m17 k hk, step1 hv]
/-- the book and the rest, with any set of steps tried, perhaps one more act, and any told year -/
def nmM (σ : MS) : MS := sJ (sA (sI σ 50 0) 51 (fun _ => 100)) (fun _ => 0)
def nmX (τ : XS) : XS := xJ (xI τ 207 0) (fun _ => 0)
theorem nm_sameM {σ σ' : MS} (h : SameM σ σ') : SameM (nmM σ) (nmM σ') := ⟨fun j a b c d => by
    show va_up σ'.1 50 0 j = va_up σ.1 50 0 j
    unfold va_up
    rw [h.1 j a b c d], fun j a b c => by
    show va_up σ'.2.1 51 _ j = va_up σ.2.1 51 _ j
    unfold va_up
    rw [h.2.1 j a b c], rfl⟩
theorem nm_sameX {τ τ' : XS} (h : SameX τ τ') : SameX (nmX τ) (nmX τ') := ⟨fun j a b c => by
    show va_up τ'.1 207 0 j = va_up τ.1 207 0 j
    unfold va_up
    rw [h.1 j a b c], h.2.1, by
    show ((fun _ => 0 : Nat → Int64), τ'.2.2.2) = ((fun _ => 0 : Nat → Int64), τ.2.2.2)
    rw [h.2.2]⟩
def CB (σ : MS) (τ : XS) (np ne : Nat) (bl : List Nat) (na : Nat) (hh : Nat → Nat) (od : List Nat) : Prop :=
  PplI σ τ np ∧ BkI σ τ np ne bl ∧ MisI (nmM σ) (nmX τ) np ∧ ActsR σ τ na hh od ∧ σ.1 16 + σ.1 50 = nI na ∧ StepV σ τ
def CV (σ : MS) (τ : XS) (K np ne : Nat) (bl : List Nat) (na : Nat) (hh : Nat → Nat) (od : List Nat) : Prop :=
  CB σ τ np ne bl na hh od ∧ Vw σ τ K np ∧ K ≤ ne ∧ ∀ p, p < np → σ.2.1 44 p = 10000 ∨ (DayOk (σ.2.1 44 p) ∧ (σ.2.1 3 p).toInt ≤ (σ.2.1 44 p).toInt)
theorem MisI.nm {σ : MS} {τ : XS} {np : Nat} (h : MisI σ τ np) : MisI (nmM σ) (nmX τ) np := by
  obtain ⟨m1, m2, m3, m4, m5, m6, m7, m8, m9, m10, m11, m12, m13, m14, m15, m16, m17, m18, m19⟩ := h
  exact ⟨m1, m2, m3, m4, m5, m6, m7, m8, m9, m10, m11, m12, m13, m14, m15, rfl, fun _ _ => rfl, rfl, rfl⟩
section CB
variable {σ σ' : MS} {τ τ' : XS} {K np ne na : Nat} {bl od : List Nat} {hh : Nat → Nat}
theorem CB.to (h : CB σ τ np ne bl na hh od) (hm : SameM σ σ') (hx : SameX τ τ') : CB σ' τ' np ne bl na hh od := by
  obtain ⟨P, B, M, A, h16, S⟩ := h
  refine ⟨P.same hm hx, B.same hm hx, M.same (nm_sameM hm) (nm_sameX hx), A.eqs (hm.2.1 17 (by decide) (by decide) (by decide)) (hm.2.1 18 (by decide) (by decide) (by decide)) (hm.2.1 19 (by decide) (by decide) (by decide)) (hm.2.1 20 (by decide) (by decide) (by decide)) (hm.2.1 21 (by decide) (by decide) (by decide)) (hm.2.1 22 (by decide) (by decide) (by decide)) (hm.2.1 23 (by decide) (by decide) (by decide)) (hm.2.1 24 (by decide) (by decide) (by decide)) (hm.2.1 25 (by decide) (by decide) (by decide)) (hx.1 302 (by decide) (by decide) (by decide)) (hx.2.1 303 (by decide) (by decide) (by decide) (by decide) (by decide) (by decide) (by decide)) (by rw [hx.2.2]), ?_, S.to hm hx⟩
  rw [hm.1 16 (by decide) (by decide) (by decide) (by decide), hm.1 50 (by decide) (by decide) (by decide) (by decide)]
  exact h16
theorem CV.rr (h : CV σ τ K np ne bl na hh od) (hm : Rm σ σ') (hx : Rx τ τ') : CV σ' τ' K np ne bl na hh od := by
  obtain ⟨B, V, hK, D⟩ := h
  refine ⟨B.to hm.same hx.same, (V.rm hm).rx hx, hK, fun p hp => ?_⟩
  rw [hm.2.1 44 (by decide), hm.2.1 3 (by decide)]
  exact D p hp
theorem CV.kp (h : CV σ τ K np ne bl na hh od) (f : Nat → Int32) : CV σ (xA τ 206 f) K np ne bl na hh od := by
  obtain ⟨B, V, hK, D⟩ := h
  exact ⟨B.to SameM.rfl ⟨fun _ _ _ _ => rfl, fun j j1 _ _ _ _ _ _ => xA_ne j1, rfl⟩, V, hK, D⟩
theorem CB.na9 (h : CB σ τ np ne bl na hh od) : na ≤ 9 := h.2.2.2.1.1
/-! the questions of lives -/
theorem CV.lives (h : CV σ τ K np ne bl na hh od) {p : Nat} (hp : p < np) (d : Int32) : ∃ v : Int32, (v = 0 ∨ v = 1) ∧ UM σ (fun s => M_lives s (nI p) d) v ∧ UX τ (fun t => Lv_livesOn t (nI p) d) v :=
  crossPP (Q := fun v : Int32 => v = 0 ∨ v = 1) fun σ' τ' hm hx => (h.rr hm hx).2.1.lives hp d
theorem CV.std (h : CV σ τ K np ne bl na hh od) {p : Nat} (hp : p < np) (d : Int32) : ∃ v : Int32, (v = 0 ∨ v = 1 ∨ v = 2) ∧ UM σ (fun s => M_isMember s (nI p) d) (if v = 1 then 1 else 0) ∧ UM σ (fun s => M_isGone s (nI p) d) (if v = 2 then 1 else 0) ∧ UX τ (fun t => Lv_standing t (nI p) d) v := by
  have := crossP (σ := σ) (τ := τ) (V := Int32) (F := fun s v => (v = 0 ∨ v = 1 ∨ v = 2) ∧ M_isMember s (nI p) d = some (if v = 1 then 1 else 0) ∧ M_isGone s (nI p) d = some (if v = 2 then 1 else 0)) (G := fun t v => Lv_standing t (nI p) d = some v) (by
    rintro s v v' ⟨a1, a2, a3⟩ ⟨b1, b2, b3⟩
    rw [a2] at b2
    rw [a3] at b3
    rcases a1 with rfl | rfl | rfl <;> rcases b1 with rfl | rfl | rfl <;> first | rfl | (exfalso; revert b2 b3; decide)) (fun t v v' a b => Option.some.inj (a.symm.trans b)) (fun σ' τ' hm hx => by
    obtain ⟨v, e1, e2⟩ := (h.rr hm hx).2.1.standing hp d
    refine ⟨v, ⟨?_, ?_, ?_⟩, e1⟩
    · rcases e2 with ⟨g, -⟩ | ⟨g, -⟩ | ⟨g, -⟩
      · exact Or.inl g
      · exact Or.inr (Or.inl g)
      · exact Or.inr (Or.inr g)
    · rcases e2 with ⟨rfl, g, -⟩ | ⟨rfl, g, -⟩ | ⟨rfl, g, -⟩ <;> exact g
    · rcases e2 with ⟨rfl, -, g⟩ | ⟨rfl, -, g⟩ | ⟨rfl, -, g⟩ <;> exact g)
  obtain ⟨v, h1, h2⟩ := this
  exact ⟨v, (h1 σ (Rm.refl σ)).1, fun s hs => (h1 s hs).2.1, fun s hs => (h1 s hs).2.2, h2⟩
theorem CV.lastW (h : CV σ τ K np ne bl na hh od) {p : Nat} (hp : p < np) (d : Int32) : ∃ r : Int32, (r = -1 ∨ ∃ e, r = nI e ∧ e < K ∧ SWed σ (nI p) d e) ∧ UM σ (fun s => M_lastWedding s (nI p) d) r ∧ UX τ (fun t => Lv_lastOf t (nI p) d 2) r := by
  refine crossPP (Q := fun r : Int32 => r = -1 ∨ ∃ e, r = nI e ∧ e < K ∧ SWed σ (nI p) d e) fun σ' τ' hm hx => ?_
  obtain ⟨r, h1, h2, h3⟩ := (h.rr hm hx).2.1.lastW hp d
  refine ⟨r, ?_, h1, h2⟩
  unfold SWed at h3 ⊢
  rw [hm.2.1 43 (by decide), hm.2.1 8 (by decide), hm.2.1 9 (by decide), hm.2.1 10 (by decide), hm.2.1 11 (by decide)] at h3
  exact h3
theorem CV.wedN (h : CV σ τ K np ne bl na hh od) {p : Nat} (hp : p < np) (d : Int32) : ∃ r : Int32, UM σ (fun s => M_weddings s (nI p) d) r ∧ UX τ (fun t => Lv_howMany t (nI p) d 2) r := by
  obtain ⟨r, -, h1, h2⟩ := crossPP (σ := σ) (τ := τ) (Q := fun _ : Int32 => True) (f := fun s => M_weddings s (nI p) d) (g := fun t => Lv_howMany t (nI p) d 2) fun σ' τ' hm hx => by
    obtain ⟨n, -, h1, h2⟩ := (h.rr hm hx).2.1.wedN hp d
    exact ⟨nI n, trivial, h1, h2⟩
  exact ⟨r, h1, h2⟩
theorem CV.wedTo (h : CV σ τ K np ne bl na hh od) {p : Nat} (hp : p < np) (d : Int32) : ∃ r : Int32, (r = -1 ∨ ∃ q, q < np ∧ r = nI q) ∧ UM σ (fun s => M_wedTo s (nI p) d) r ∧ UX τ (fun t => Lv_wedTo t (nI p) d) r :=
  crossPP (Q := fun r : Int32 => r = -1 ∨ ∃ q, q < np ∧ r = nI q) fun σ' τ' hm hx => by
    obtain ⟨r, h1, h2, h3⟩ := (h.rr hm hx).2.1.wedTo hp d
    exact ⟨r, h3, h1, h2⟩
theorem CV.age (h : CV σ τ K np ne bl na hh od) {p : Nat} (hp : p < np) {d : Int32} (hd : -1 ≤ d.toInt ∧ d.toInt ≤ 10000) : ∃ r : Int32, InR r 0 100 ∧ UM σ (fun s => M_ageOf s (nI p) d) r ∧ UX τ (fun t => Bk_ageOn t (nI p) d) r :=
  crossPP (Q := fun r : Int32 => InR r 0 100) fun σ' τ' hm hx => by
    obtain ⟨r, h1, h2, h3⟩ := age_eq' (h.rr hm hx).1.1 hp hd
    exact ⟨r, h3, h1, h2⟩
theorem CV.seat (h : CV σ τ K np ne bl na hh od) {p : Nat} (hp : p < np) (d : Int32) : ∃ v : Int32, (v = -1 ∨ ∃ e, e < K ∧ SLast σ (nI p) 4 d e ∧ v = σ.2.1 10 e) ∧ UM σ (fun s => M_seatOf s (nI p) d) v ∧ UX τ (fun t => Lv_seatOf t (nI p) d) v := by
  refine crossPP (Q := fun v : Int32 => v = -1 ∨ ∃ e, e < K ∧ SLast σ (nI p) 4 d e ∧ v = σ.2.1 10 e) fun σ' τ' hm hx => ?_
  obtain ⟨v, h1, h2, h3⟩ := (h.rr hm hx).2.1.seat hp d
  refine ⟨v, ?_, h1, h2⟩
  unfold SLast at h3 ⊢
  rw [hm.2.1 43 (by decide), hm.2.1 8 (by decide), hm.2.1 9 (by decide), hm.2.1 10 (by decide), hm.2.1 11 (by decide)] at h3
  exact h3
/-- the first JOINED: the class's entry, the reference's day -/
theorem Lv_firstOf_rx (h : Rx τ τ') : Lv_firstOf τ' = Lv_firstOf τ := by
  have key : ∀ n, Lv_firstOf_L8_r τ' n = Lv_firstOf_L8_r τ n := by
    intro n
    induction n with
    | zero => rfl
    | succ n ih =>
      funext a1 a2 a3 a4
      rw [Lv_firstOf_L8_r, Lv_firstOf_L8_r, h.2.1 403 (by decide) (by decide), h.2.1 404 (by decide) (by decide), h.2.1 110 (by decide) (by decide), h.2.1 107 (by decide) (by decide), ih]
  funext p d k
  unfold Lv_firstOf Lv_firstOf_L8
  rw [key, h.2.1 402 (by decide) (by decide)]
theorem CV.first (h : CV σ τ K np ne bl na hh od) {p : Nat} (hp : p < np) (d : Int32) : (UX τ (fun t => Lv_firstOf t (nI p) d 4) (-1) ∧ UM σ (fun s => M_firstJoined s (nI p) d) (-1)) ∨ ∃ e, e < K ∧ SJoin σ (nI p) d e ∧ UX τ (fun t => Lv_firstOf t (nI p) d 4) (nI e) ∧ UM σ (fun s => M_firstJoined s (nI p) d) (σ.2.1 11 e) := by
  have hK : K ≤ 200 := h.2.1.1
  obtain ⟨r0, e0, e1⟩ := h.2.1.first hp d
  have hx : UX τ (fun t => Lv_firstOf t (nI p) d 4) r0 := fun τ' hx => by
    show Lv_firstOf τ' (nI p) d 4 = _
    rw [Lv_firstOf_rx hx]; exact e0
  rcases e1 with ⟨g1, g2, g3⟩ | ⟨e, g1, g2, g3, g4⟩
  · rw [g1] at hx
    refine Or.inl ⟨hx, fun σ' hm => ?_⟩
    obtain ⟨r0', e0', e1'⟩ := (h.2.1.rm hm).first hp d
    rw [e0] at e0'
    rcases e1' with ⟨-, k, -⟩ | ⟨e', k1, k2, -⟩
    · exact k
    · rw [← Option.some.inj e0', g1] at k1
      exact absurd k1.symm (nI_ne_m1 (by omega))
  · rw [g1] at hx
    refine Or.inr ⟨e, g2, g3, hx, fun σ' hm => ?_⟩
    obtain ⟨r0', e0', e1'⟩ := (h.2.1.rm hm).first hp d
    rw [e0] at e0'
    rcases e1' with ⟨k1, -⟩ | ⟨e', k1, k2, -, k4⟩
    · rw [← Option.some.inj e0', g1] at k1
      exact absurd k1 (nI_ne_m1 (by omega))
    · rw [← Option.some.inj e0', g1] at k1
      have : e = e' := (nI_eq (by omega) (by omega)).mp k1
      subst this
      rw [hm.2.1 11 (by decide)] at k4
      exact k4
end CB
