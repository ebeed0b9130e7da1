/-! code and what it comes to; the class while it reads a sum -/
theorem TI_F {τ : XS} {a j : Nat} {v : Int32} : tF (xTI τ a j v) a j = v := by
  show (va_up τ.2.2.2.2.2.2 a (va_up (τ.2.2.2.2.2.2 a).1 j v, (τ.2.2.2.2.2.2 a).2) a).1 j = v
  rw [va_up_self]; exact va_up_self _ _ _
theorem TI_Fn {τ : XS} {a j i : Nat} {v : Int32} (h : i ≠ j) : tF (xTI τ a j v) a i = tF τ a i := by
  show (va_up τ.2.2.2.2.2.2 a (va_up (τ.2.2.2.2.2.2 a).1 j v, (τ.2.2.2.2.2.2 a).2) a).1 i = _
  rw [va_up_self]; exact va_up_ne _ _ h
theorem TI_A {τ : XS} {a j i : Nat} {v : Int32} : tA (xTI τ a j v) a i = tA τ a i := by
  show (va_up τ.2.2.2.2.2.2 a (va_up (τ.2.2.2.2.2.2 a).1 j v, (τ.2.2.2.2.2.2 a).2) a).2 i = _
  rw [va_up_self]; rfl
theorem TA_A {τ : XS} {a j : Nat} {f : Nat → Int32} : tA (xTA τ a j f) a j = f := by
  show (va_up τ.2.2.2.2.2.2 a ((τ.2.2.2.2.2.2 a).1, va_up (τ.2.2.2.2.2.2 a).2 j f) a).2 j = f
  rw [va_up_self]; exact va_up_self _ _ _
theorem TA_An {τ : XS} {a j i : Nat} {f : Nat → Int32} (h : i ≠ j) : tA (xTA τ a j f) a i = tA τ a i := by
  show (va_up τ.2.2.2.2.2.2 a ((τ.2.2.2.2.2.2 a).1, va_up (τ.2.2.2.2.2.2 a).2 j f) a).2 i = _
  rw [va_up_self]; exact va_up_ne _ _ h
theorem TA_F {τ : XS} {a j i : Nat} {f : Nat → Int32} : tF (xTA τ a j f) a i = tF τ a i := by
  show (va_up τ.2.2.2.2.2.2 a ((τ.2.2.2.2.2.2 a).1, va_up (τ.2.2.2.2.2.2 a).2 j f) a).1 i = _
  rw [va_up_self]; rfl
theorem TI_o {τ : XS} {a b j : Nat} {v : Int32} (h : b ≠ a) : (xTI τ a j v).2.2.2.2.2.2 b = τ.2.2.2.2.2.2 b := va_up_ne _ _ h
theorem TA_o {τ : XS} {a b j : Nat} {f : Nat → Int32} (h : b ≠ a) : (xTA τ a j f).2.2.2.2.2.2 b = τ.2.2.2.2.2.2 b := va_up_ne _ _ h
theorem bt_nat {n : Nat} {T : Nat → Int32} (hT : TpOK n T) (k : Nat) : (n ≤ k ∧ bt n T k = -1) ∨ ∃ c, c ≤ 255 ∧ k < n ∧ bt n T k = nI c := by
  unfold bt
  by_cases q : n ≤ k
  · exact Or.inl ⟨q, if_pos q⟩
  · obtain ⟨h1, h2⟩ := hT.2 k
    refine Or.inr ⟨(T k).toInt.toNat, by omega, by omega, ?_⟩
    rw [if_neg q]
    exact i32_eq.mpr (by rw [nI_i (by omega)]; omega)
/-- a stack lies in a row, its top last -/
def Stk (f : Nat → Int32) : List Int32 → Prop
  | [] => True
  | x :: r => f r.length = x ∧ Stk f r
theorem Stk.push {f : Nat → Int32} {x : Int32} : ∀ {s : List Int32} {m : Nat}, Stk f s → s.length ≤ m → Stk (upd f m x) s := by
  intro s
  induction s with
  | nil => intro _ _ _; exact trivial
  | cons y r ih =>
    intro m h hm
    simp only [List.length_cons] at hm
    refine ⟨?_, ih h.2 (by omega)⟩
    unfold upd
    rw [if_neg (by omega)]
    exact h.1
theorem upd_at {f : Nat → Int32} {m : Nat} {x : Int32} : upd f m x m = x := by unfold upd; rw [if_pos rfl]
theorem upd_no {f : Nat → Int32} {m i : Nat} {x : Int32} (h : i ≠ m) : upd f m x i = f i := by unfold upd; rw [if_neg h]
def opc (o : Int32) : Int32 := if o = 43 then -11 else if o = 45 then -12 else -13
def stepC (nm : Nat → Int32) (x : Int32) (s : List Int32) : Option (List Int32) :=
  if x = -13 ∨ x = -12 ∨ x = -11 then match s with
    | b :: a :: r => some ((if x = -13 then a * b else if x = -12 then a - b else a + b) :: r)
    | _ => none
  else if 0 ≤ x then some (x :: s) else if (-5 : Int32) ≤ x then some (nm ((-1) - x).toNatClampNeg :: s) else none
def runC (nm : Nat → Int32) : List Int32 → List Int32 → Option (List Int32)
  | [], s => some s
  | x :: c, s => (stepC nm x s).bind (runC nm c)
theorem runC_app {nm : Nat → Int32} : ∀ {c d s : List Int32}, runC nm (c ++ d) s = (runC nm c s).bind (runC nm d) := by
  intro c
  induction c with
  | nil => intro d s; rfl
  | cons x c ih =>
    intro d s
    show (stepC nm x s).bind (runC nm (c ++ d)) = ((stepC nm x s).bind (runC nm c)).bind (runC nm d)
    cases stepC nm x s with
    | none => rfl
    | some y => exact ih
def RunsTo (nm : Nat → Int32) (c : List Int32) (v : Int32) : Prop := ∀ s, runC nm c s = some (v :: s)
theorem RunsTo.bin {nm : Nat → Int32} {c d : List Int32} {v w u x : Int32} (h : RunsTo nm c v) (g : RunsTo nm d w) (e : (x = -13 ∧ u = v * w) ∨ (x = -12 ∧ u = v - w) ∨ (x = -11 ∧ u = v + w)) : RunsTo nm (c ++ d ++ [x]) u := by
  intro s
  rw [runC_app, runC_app, h s, bind_so, g, bind_so]
  show (stepC nm x (w :: v :: s)).bind (runC nm []) = _
  rcases e with ⟨rfl, rfl⟩ | ⟨rfl, rfl⟩ | ⟨rfl, rfl⟩ <;> rfl
theorem RunsTo.num {nm : Nat → Int32} {x : Nat} (hx : x ≤ 9999) : RunsTo nm [nI x] (nI x) := by
  intro s
  show (stepC nm (nI x) s).bind (runC nm []) = _
  have e : (nI x).toInt = x := nI_i (by omega)
  unfold stepC
  rw [if_neg (by simp only [i32_eq, e]; rw [show (-13 : Int32).toInt = -13 from rfl, show (-12 : Int32).toInt = -12 from rfl, show (-11 : Int32).toInt = -11 from rfl]; omega), if_pos (nI_le0 (by omega))]
  rfl
theorem RunsTo.name {nm : Nat → Int32} : ∀ {i : Nat}, i < 5 → RunsTo nm [(-1) - nI i] (nm i) := by
  intro i hi s
  have : i = 0 ∨ i = 1 ∨ i = 2 ∨ i = 3 ∨ i = 4 := by omega
  rcases this with rfl | rfl | rfl | rfl | rfl <;> rfl
/-- what reading leaves alone -/
def Fr (τ0 τ : XS) (h : Nat) : Prop := (∀ j, j ≠ 702 → j ≠ 704 → τ.1 j = τ0.1 j) ∧ (∀ j, j ≠ 703 → τ.2.1 j = τ0.2.1 j) ∧ τ.2.2.1 = τ0.2.2.1 ∧ nA τ = nA τ0 ∧ τ.2.2.2.2.1 = τ0.2.2.2.2.1 ∧ τ.2.2.2.2.2.1 = τ0.2.2.2.2.2.1 ∧ (∀ x, x ≠ h → τ.2.2.2.2.2.2 x = τ0.2.2.2.2.2.2 x) ∧ (∀ j, j ≠ 9 → tF τ h j = tF τ0 h j) ∧ (∀ j, j ≠ 8 → tA τ h j = tA τ0 h j)
theorem Fr.rfl {τ : XS} {h : Nat} : Fr τ τ h := ⟨fun _ _ _ => Eq.refl _, fun _ _ => Eq.refl _, Eq.refl _, Eq.refl _, Eq.refl _, Eq.refl _, fun _ _ => Eq.refl _, fun _ _ => Eq.refl _, fun _ _ => Eq.refl _⟩
theorem Fr.trans {a b c : XS} {h : Nat} (f : Fr a b h) (g : Fr b c h) : Fr a c h := by
  obtain ⟨f1, f2, f3, f4, f5, f6, f7, f8, f9⟩ := f
  obtain ⟨g1, g2, g3, g4, g5, g6, g7, g8, g9⟩ := g
  exact ⟨fun j a b => (g1 j a b).trans (f1 j a b), fun j a => (g2 j a).trans (f2 j a), g3.trans f3, g4.trans f4, g5.trans f5, g6.trans f6, fun x a => (g7 x a).trans (f7 x a), fun j a => (g8 j a).trans (f8 j a), fun j a => (g9 j a).trans (f9 j a)⟩
theorem Fr.i {τ : XS} {h j : Nat} {v : Int32} (e : j = 702 ∨ j = 704) : Fr τ (xI τ j v) h := ⟨fun _ h1 h2 => xI_ne (by omega), fun _ _ => Eq.refl _, Eq.refl _, Eq.refl _, Eq.refl _, Eq.refl _, fun _ _ => Eq.refl _, fun _ _ => Eq.refl _, fun _ _ => Eq.refl _⟩
theorem Fr.a {τ : XS} {h : Nat} {f : Nat → Int32} : Fr τ (xA τ 703 f) h := ⟨fun _ _ _ => Eq.refl _, fun _ h1 => xA_ne h1, Eq.refl _, Eq.refl _, Eq.refl _, Eq.refl _, fun _ _ => Eq.refl _, fun _ _ => Eq.refl _, fun _ _ => Eq.refl _⟩
theorem Fr.tI {τ : XS} {h : Nat} {v : Int32} : Fr τ (xTI τ h 9 v) h := ⟨fun _ _ _ => Eq.refl _, fun _ _ => Eq.refl _, Eq.refl _, Eq.refl _, Eq.refl _, Eq.refl _, fun _ g => TI_o g, fun _ g => TI_Fn g, fun _ _ => TI_A⟩
theorem Fr.tA {τ : XS} {h : Nat} {f : Nat → Int32} : Fr τ (xTA τ h 8 f) h := ⟨fun _ _ _ => Eq.refl _, fun _ _ => Eq.refl _, Eq.refl _, Eq.refl _, Eq.refl _, Eq.refl _, fun _ g => TA_o g, fun _ _ => TA_F, fun _ g => TA_An g⟩
/-- the class at byte k: signs st wait, code cd is written -/
def Qc (τ0 : XS) (h n : Nat) (T : Nat → Int32) (k : Nat) (st cd : List Int32) (τ : XS) : Prop := h < nA τ ∧ XR n T k τ ∧ τ.1 704 = nI st.length ∧ Stk (τ.2.1 703) st ∧ tF τ h 9 = nI cd.length ∧ (∀ i x, cd[i]? = some x → tA τ h 8 i = x) ∧ Fr τ0 τ h
variable {τ0 τ : XS} {h n k e : Nat} {T : Nat → Int32} {st cd : List Int32}
theorem Qc.at (q : Qc τ0 h n T k st cd τ) {k' : Nat} (hk : k' ≤ n) : Qc τ0 h n T k' st cd (xI τ 702 (nI k')) := by
  obtain ⟨h1, ⟨h2, h3, h4, h5⟩, h6, h7, h8, h9, h10⟩ := q
  exact ⟨h1, ⟨hk, xI_get, (xI_ne (by decide)).trans h4, h5⟩, (xI_ne (by decide)).trans h6, h7, h8, h9, h10.trans (Fr.i (Or.inl rfl))⟩
theorem Qc.go (q : Qc τ0 h n T k st cd τ) (hk : k < n) : Qc τ0 h n T (k + 1) st cd (xI τ 702 (τ.1 702 + 1)) := by
  rw [q.2.1.2.1, nI_1]; exact q.at hk
theorem Qc.emit (q : Qc τ0 h n T k st cd τ) (hl : cd.length < 200) (v : Int32) : ∃ τ', Ac_emit τ h v = some ((), τ') ∧ Qc τ0 h n T k st (cd ++ [v]) τ' := by
  obtain ⟨h1, ⟨h2, h3, h4, h5⟩, h6, h7, h8, h9, h10⟩ := q
  have e1 : nI cd.length + 1 = nI (cd.length + 1) := nI_1 _
  refine ⟨xTA (xTI τ h 9 (nI (cd.length + 1))) h 8 (upd (tA τ h 8) cd.length v), ?_, h1, ⟨h2, h3, h4, h5⟩, h6, h7, ?_, ?_, (h10.trans Fr.tI).trans Fr.tA⟩
  · unfold Ac_emit gA
    rw [if_pos h1, h8, if_neg (fun g => by have := (nI_leI (a := 200) (by decide) (by omega)).mp g; omega), wr_nI hl (by decide), e1, TI_A, cl_nI (by omega)]
  · rw [TA_F, TI_F, List.length_append, List.length_singleton]
  · intro i x hx
    rw [TA_A, List.getElem?_append] at *
    by_cases c : i < cd.length
    · rw [if_pos c] at hx
      rw [upd_no (by omega)]; exact h9 i x hx
    · rw [if_neg c] at hx
      have : i = cd.length := by
        by_cases c2 : i - cd.length = 0
        · omega
        · rw [List.getElem?_eq_none (by rw [List.length_singleton]; omega)] at hx; exact absurd hx (by simp)
      subst this
      rw [Nat.sub_self] at hx
      rw [upd_at]
      exact Option.some.inj hx
theorem Qc.hold (q : Qc τ0 h n T k st cd τ) (hk : k < n) (hl : st.length < 200) (v : Int32) : ∃ τ', Tp_hold τ v = some ((), τ') ∧ Qc τ0 h n T (k + 1) (v :: st) cd τ' := by
  have q' := q
  obtain ⟨h1, ⟨h2, h3, h4, h5⟩, h6, h7, h8, h9, h10⟩ := q
  refine ⟨xI (xA (xI τ 704 (nI (st.length + 1))) 703 (upd (τ.2.1 703) st.length v)) 702 (nI (k + 1)), ?_, h1, ⟨hk, xI_get, ?_, h5⟩, ?_, ?_, h8, h9, ((h10.trans (Fr.i (Or.inr rfl))).trans Fr.a).trans (Fr.i (Or.inl rfl))⟩
  · unfold Tp_hold Tp_hold_J27
    rw [h6, if_neg (fun g => by have := (nI_leI (a := 200) (by decide) (by omega)).mp g; omega), wr_nI hl (by decide), nI_1, cl_nI (by omega)]
    have : (xA (xI τ 704 (nI (st.length + 1))) 703 (upd ((xI τ 704 (nI (st.length + 1))).2.1 703) st.length v)).1 702 = nI k := by rw [xA_1, xI_ne (by decide)]; exact h3
    rw [this, nI_1]; rfl
  · rw [xI_ne (by decide), xA_1, xI_ne (by decide)]; exact h4
  · rw [xI_ne (by decide), xA_1, xI_get]; rfl
  · show Stk ((xA (xI τ 704 (nI (st.length + 1))) 703 (upd (τ.2.1 703) st.length v)).2.1 703) (v :: st)
    rw [xA_get]
    exact ⟨upd_at, h7.push (Nat.le_refl _)⟩
def strn (x : Int32) : Int32 := if x = 40 then 0 else if x = 42 then 2 else 1
theorem strn_X {τ : XS} {x : Int32} : Tp_strength τ x = some (strn x) := by
  unfold Tp_strength strn
  split
  · rfl
  · split <;> rfl
theorem Qc.pop {x : Int32} (q : Qc τ0 h n T k (x :: st) cd τ) (hl : st.length < 200) : Qc τ0 h n T k st cd (xI τ 704 (τ.1 704 - 1)) := by
  obtain ⟨h1, ⟨h2, h3, h4, h5⟩, h6, h7, h8, h9, h10⟩ := q
  refine ⟨h1, ⟨h2, (xI_ne (by decide)).trans h3, (xI_ne (by decide)).trans h4, h5⟩, ?_, h7.2, h8, h9, h10.trans (Fr.i (Or.inr rfl))⟩
  rw [xI_get, h6, List.length_cons, show (1 : Int32) = nI 1 from rfl, nI_sub (by omega)]; rfl
/-- signs that bind as strongly go out -/
theorem Qc.rel {S : List Int32} {p : Int32} (hS : S = [] ∨ ∃ x r, S = x :: r ∧ strn x < p) : ∀ (pend cd : List Int32) (τ : XS) (fu : Nat), Qc τ0 h n T k (pend ++ S) cd τ → cd.length + (pend ++ S).length ≤ 200 → (∀ o, o ∈ pend → (o = 43 ∨ o = 45 ∨ o = 42) ∧ ¬ strn o < p) → pend.length < fu → ∃ τ', Tp_release_L0_r fu τ (some h) p = some ((), τ') ∧ Qc τ0 h n T k S (cd ++ pend.map opc) τ' := by
  intro pend
  induction pend with
  | nil =>
    intro cd τ fu q hl ho hf
    obtain ⟨f, rfl, -⟩ := fuel hf
    have q' : Qc τ0 h n T k S cd τ := q
    refine ⟨τ, ?_, by rw [List.map_nil, List.append_nil]; exact q'⟩
    obtain ⟨h1, ⟨h2, h3, h4, h5⟩, h6, h7, h8, h9, h10⟩ := q'
    rw [Tp_release_L0_r, h6]
    rcases hS with rfl | ⟨x, r, rfl, hx⟩
    · rw [if_pos (show nI ([] : List Int32).length ≤ 0 from Int32.le_refl _)]
    · simp only [List.nil_append, List.length_cons] at hl ⊢
      rw [if_neg (fun g => by have := (nI_leI (b := 0) (by omega) (by decide)).mp g; omega), show (1 : Int32) = nI 1 from rfl, nI_sub (by omega), show r.length + 1 - 1 = r.length by omega, rd_nI (by omega) (by decide), h7.1, strn_X, bind_so, if_pos hx]
  | cons o pend ih =>
    intro cd τ fu q hl ho hf
    obtain ⟨f, rfl, hf2⟩ := fuel hf
    simp only [List.cons_append, List.length_cons] at hl hf2 q
    have q' := q
    obtain ⟨h1, ⟨h2, h3, h4, h5⟩, h6, h7, h8, h9, h10⟩ := q'
    obtain ⟨oo, os⟩ := ho o (by simp)
    obtain ⟨τ1, e1, q1⟩ := q.emit (by omega) (opc o)
    have q2 := q1.pop (by omega)
    obtain ⟨τ', e2, q3⟩ := ih (cd ++ [opc o]) _ f q2 (by rw [List.length_append, List.length_singleton]; omega) (fun x hx => ho x (by simp [hx])) (by omega)
    refine ⟨τ', ?_, by rw [List.map_cons]; rw [List.append_assoc] at q3; exact q3⟩
    rw [Tp_release_L0_r, h6]
    simp only [List.length_cons]
    rw [if_neg (fun g => by have := (nI_leI (b := 0) (by omega) (by decide)).mp g; omega), show (1 : Int32) = nI 1 from rfl, nI_sub (by omega), show (pend ++ S).length + 1 - 1 = (pend ++ S).length by omega, rd_nI (by omega) (by decide), h7.1, strn_X, bind_so, if_neg os]
    rw [rd_nI (by omega) (by decide), h7.1]
    have go : Tp_release_J62 (Tp_release_L0_r f) τ (some h) p (opc o) (some h) = some ((), τ') := by
      unfold Tp_release_J62 oA
      simp only [if_pos h1]
      rw [e1, bind_pq]
      exact e2
    rcases oo with rfl | rfl | rfl
    · rw [if_pos rfl]; exact go
    · rw [if_neg (by decide), if_pos rfl]; exact go
    · rw [if_neg (by decide), if_neg (by decide)]; exact go
