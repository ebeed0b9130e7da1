/-! a sum is read: what the reference comes to, the class's code comes to -/
def lp (τ : XS) (h d : Nat) (a3 : Int32) (a4 : Nat) : Option (Int32 × XS) := Tp_readSum_L12_r (100000 - a4) τ (some h) (nI d) a3 (nI a4)
def Rdy (τ0 : XS) (h n : Nat) (T : Nat → Int32) (e k d : Nat) (st cd : List Int32) (a4 : Nat) (τ : XS) : Prop := Qc τ0 h n T k st cd τ ∧ cd.length + st.length + e ≤ k ∧ a4 ≤ k ∧ d ≤ k
def Ops (p o : Int32) : Prop := (o = 43 ∨ o = 45 ∨ o = 42) ∧ ¬ strn o < p
def PP (p : Int32) (st : List Int32) : Prop := st = [] ∨ ∃ x r, st = x :: r ∧ strn x < p
def stopB (n : Nat) (T : Nat → Int32) (p : Int32) (k : Nat) : Prop := ¬ Ops p (bt n T k)
def RBad (n : Nat) (T : Nat → Int32) (f : MS → Option (Int32 × MS)) (k k' : Nat) : Prop := ∀ a σ, MR a n T k 0 σ → ∃ v σ', f σ = some (v, σ') ∧ Lk σ σ' ∧ MR a n T k' 1 σ'
def RGood (n : Nat) (T : Nat → Int32) (f : MS → Option (Int32 × MS)) (k k' : Nat) (c : List Int32) : Prop := ∀ a σ, MR a n T k 0 σ → ∃ v σ', f σ = some (v, σ') ∧ Lk σ σ' ∧ MR a n T k' 0 σ' ∧ RunsTo (σ.2.1 49) c v
def XBad (n : Nat) (T : Nat → Int32) (p : Int32) (k k' : Nat) : Prop := ∀ τ0 h e d st cd a4 τ, Rdy τ0 h n T e k d st cd a4 τ → PP p st → ∃ τ', lp τ h d 1 a4 = some (0, τ') ∧ XR n T k' τ' ∧ Fr τ0 τ' h
def XGood (n : Nat) (T : Nat → Int32) (p : Int32) (k k' : Nat) (c : List Int32) : Prop := ∀ τ0 h e d st cd a4 τ, Rdy τ0 h n T e k d st cd a4 τ → PP p st → ∃ τ' a4' pend c0, lp τ h d 1 a4 = lp τ' h d 0 a4' ∧ Rdy τ0 h n T e k' d (pend ++ st) (cd ++ c0) a4' τ' ∧ c0 ++ pend.map opc = c ∧ ∀ o, o ∈ pend → Ops p o
def Spc (n : Nat) (T : Nat → Int32) (p : Int32) (f : MS → Option (Int32 × MS)) (k : Nat) : Prop := (∃ k', k ≤ k' ∧ k' ≤ n ∧ RBad n T f k k' ∧ XBad n T p k k') ∨ (∃ c k', k < k' ∧ k' ≤ n ∧ stopB n T p k' ∧ RGood n T f k k' c ∧ XGood n T p k k' c)
theorem lp_J {τ : XS} {h d a4 : Nat} {a3 : Int32} : Tp_readSum_J176 (Tp_readSum_L12_r (100000 - (a4 + 1))) τ (some h) (nI d) a3 (nI a4) = lp τ h d a3 (a4 + 1) := by
  unfold Tp_readSum_J176 lp; rw [nI_1]
theorem lp_step {τ : XS} {h d a4 : Nat} {a3 : Int32} (h4 : a4 ≤ 200) : lp τ h d a3 a4 = (Tp_next τ).bind fun r1 => (if a3 = 0 then Tp_readSum_J49 (Tp_readSum_L12_r (100000 - (a4 + 1))) τ (some h) (nI d) a3 (nI a4) r1 else if r1 = 40 then (Tp_hold τ r1).bind (pq fun r8 r8s => (Tp_readSum_J176 (Tp_readSum_L12_r (100000 - (a4 + 1))) r8s (some h) (nI d + 1) a3 (nI a4))) else Tp_readSum_J49 (Tp_readSum_L12_r (100000 - (a4 + 1))) τ (some h) (nI d) a3 (nI a4) r1) := by
  have e : 100000 - a4 = (100000 - (a4 + 1)) + 1 := by omega
  show Tp_readSum_L12_r (100000 - a4) τ (some h) (nI d) a3 (nI a4) = _
  rw [e, Tp_readSum_L12_r, if_neg (fun g => by have := (nI_ltI (a := 200) (by decide) (by omega)).mp g; omega)]
theorem rel_of {τ0 τ : XS} {h n k e : Nat} {T : Nat → Int32} {cd S pend : List Int32} {p : Int32} (hT : TpOK n T) (hk : k ≤ n) (q : Qc τ0 h n T k (pend ++ S) cd τ) (hl : cd.length + (pend ++ S).length + e ≤ k) (hS : PP p S) (hp : ∀ o, o ∈ pend → Ops p o) : ∃ τ', Tp_release τ (some h) p = some ((), τ') ∧ Qc τ0 h n T k S (cd ++ pend.map opc) τ' := by
  have := hT.1
  have l2 : (pend ++ S).length = pend.length + S.length := List.length_append
  exact Qc.rel hS pend cd τ 100000 q (by omega) hp (by omega)
theorem J49_X {kk : XS → Option Nat → Int32 → Int32 → Int32 → Option (Int32 × XS)} {τ : XS} {h d a4 : Nat} {b : Int32} (c : b ≠ 41 ∨ d = 0) : Tp_readSum_J49 kk τ (some h) (nI d) 0 (nI a4) b = Tp_readSum_J118 kk τ (some h) (nI d) (nI a4) b := by
  unfold Tp_readSum_J49
  rw [if_pos rfl]
  by_cases c1 : b = 41
  · rw [if_pos c1, if_pos (show nI d ≤ 0 by rw [c.resolve_left (fun g => g c1)]; decide)]
  · rw [if_neg c1]
/-- a sign comes -/
theorem lp_op {τ0 τ : XS} {h n k e d a4 : Nat} {T : Nat → Int32} {cd S pend c0 : List Int32} {p o : Int32} (hT : TpOK n T) (hb : bt n T k = o) (ho : o = 43 ∨ o = 45 ∨ o = 42) (hs : strn o = p) (r : Rdy τ0 h n T e k d (pend ++ S) (cd ++ c0) a4 τ) (hS : PP p S) (hp : ∀ o, o ∈ pend → Ops p o) : ∃ τ', lp τ h d 0 a4 = lp τ' h d 1 (a4 + 1) ∧ Rdy τ0 h n T e (k + 1) d (o :: S) (cd ++ (c0 ++ pend.map opc)) (a4 + 1) τ' := by
  obtain ⟨q, r2, r3, r4⟩ := r
  have hn := hT.1
  have hk := q.2.1.1
  have kn : k < n := bt_lt hb (by rcases ho with e | e | e <;> rw [e] <;> decide)
  have l2 : (pend ++ S).length = pend.length + S.length := List.length_append
  obtain ⟨τ1, e1, q1⟩ := rel_of hT hk q r2 hS hp
  have l3 : (cd ++ c0 ++ pend.map opc).length = (cd ++ c0).length + pend.length := by rw [List.length_append (as := cd ++ c0), List.length_map]
  obtain ⟨τ2, e2, q2⟩ := q1.hold kn (by omega) o
  refine ⟨τ2, ?_, by rw [← List.append_assoc]; exact q2, by rw [← List.append_assoc, l3, List.length_cons]; omega, by omega, by omega⟩
  rw [lp_step (by omega), q.2.1.next hT, bind_so, if_pos rfl, J49_X (Or.inl (by rw [hb]; rcases ho with e | e | e <;> rw [e] <;> decide)), hb]
  have go : Tp_readSum_J139 (Tp_readSum_L12_r (100000 - (a4 + 1))) τ (some h) (nI d) (nI a4) o = lp τ2 h d 1 (a4 + 1) := by
    unfold Tp_readSum_J139
    rw [strn_X, bind_so, hs, e1, bind_pq, e2, bind_pq, lp_J]
  unfold Tp_readSum_J118
  rcases ho with e | e | e
  · rw [if_pos e]; exact go
  · rw [if_neg (by rw [e]; decide), if_pos e]; exact go
  · rw [if_neg (by rw [e]; decide), if_neg (by rw [e]; decide), if_pos e]; exact go
def opv (o v w : Int32) : Int32 := if o = 42 then v * w else if o = 45 then v - w else v + w
theorem opc_run {nm : Nat → Int32} {c d : List Int32} {v w o : Int32} (ho : o = 43 ∨ o = 45 ∨ o = 42) (h : RunsTo nm c v) (g : RunsTo nm d w) : RunsTo nm (c ++ d ++ [opc o]) (opv o v w) := by
  refine h.bin g ?_
  rcases ho with rfl | rfl | rfl
  · exact Or.inr (Or.inr ⟨rfl, rfl⟩)
  · exact Or.inr (Or.inl ⟨rfl, rfl⟩)
  · exact Or.inl ⟨rfl, rfl⟩
/-- a level of the reference's reading, with signs of strength p -/
def Lvl (n : Nat) (T : Nat → Int32) (p : Int32) (o : MS → Option (Int32 × MS)) (F : Nat → MS → Int32 → Option (Int32 × MS)) : Prop := (∀ fu σ v, σ.1 48 = 1 → F (fu + 1) σ v = some (v, σ)) ∧ (∀ fu a k σ v, MR a n T k 0 σ → ¬ ((bt n T k = 43 ∨ bt n T k = 45 ∨ bt n T k = 42) ∧ strn (bt n T k) = p) → F (fu + 1) σ v = some (v, σ)) ∧ (∀ fu a k σ v, MR a n T k 0 σ → ((bt n T k = 43 ∨ bt n T k = 45 ∨ bt n T k = 42) ∧ strn (bt n T k) = p) → F (fu + 1) σ v = (o (sI σ 47 (σ.1 47 + 1))).bind (pq fun r s => F fu s (opv (bt n T k) v r)))
theorem strn_v : ∀ {x : Int32}, (x = 43 ∨ x = 45 ∨ x = 42) → strn x = 1 ∨ strn x = 2 := by
  rintro x (rfl | rfl | rfl) <;> decide
theorem level {n m : Nat} {T : Nat → Int32} {p : Int32} {o : MS → Option (Int32 × MS)} {F : Nat → MS → Int32 → Option (Int32 × MS)} (hT : TpOK n T) (hp : p = 1 ∨ p = 2) (hF : Lvl n T p o F) (hO : ∀ k, k ≤ n → n - k < m → Spc n T (p + 1) o k) (k : Nat) (hk : k ≤ n) (hm : n - k < m) : Spc n T p (fun σ => (o σ).bind (pq fun r s => F 100000 s r)) k := by
  have hn := hT.1
  obtain ⟨F1, F2, F3⟩ := hF
  have opsUp : ∀ x, Ops (p + 1) x → Ops p x := by
    rintro x ⟨a, b⟩
    refine ⟨a, ?_⟩
    rcases strn_v a with e | e <;> rcases hp with rfl | rfl <;> rw [e] at b ⊢ <;> revert b <;> decide
  have opsDn : ∀ x, Ops p x → ¬ Ops (p + 1) x → strn x = p := by
    rintro x ⟨a, b⟩ c
    have c' : strn x < p + 1 := Classical.byContradiction fun g => c ⟨a, g⟩
    rcases strn_v a with e | e <;> rcases hp with rfl | rfl <;> rw [e] at b c' ⊢ <;> revert b c' <;> decide
  have opsEq : ∀ x, (x = 43 ∨ x = 45 ∨ x = 42) → strn x = p → Ops p x := fun x a b => ⟨a, by rw [b, i32_lt]; omega⟩
  have ppUp : ∀ S, PP p S → PP (p + 1) S := by
    rintro S (h | ⟨x, r, h1, h2⟩)
    · exact Or.inl h
    · refine Or.inr ⟨x, r, h1, ?_⟩
      rw [i32_lt] at h2 ⊢
      rcases hp with rfl | rfl
      · rw [show ((1 : Int32) + 1).toInt = 2 from rfl]; rw [show (1 : Int32).toInt = 1 from rfl] at h2; omega
      · rw [show ((2 : Int32) + 1).toInt = 3 from rfl]; rw [show (2 : Int32).toInt = 2 from rfl] at h2; omega
  have ppOp : ∀ x S, strn x = p → PP (p + 1) (x :: S) := by
    intro x S e
    refine Or.inr ⟨x, S, rfl, ?_⟩
    rw [e]
    rcases hp with rfl | rfl <;> decide
  -- the loop
  have loop : ∀ (d k fu : Nat), n - k ≤ d → k ≤ n → d < fu → n - k < m → stopB n T (p + 1) k →
      (∃ k', k ≤ k' ∧ k' ≤ n ∧ (∀ a σ v, MR a n T k 0 σ → ∃ v' σ', F fu σ v = some (v', σ') ∧ Lk σ σ' ∧ MR a n T k' 1 σ') ∧ (∀ τ0 h e d st cd a4 τ pend c0, Rdy τ0 h n T e k d (pend ++ st) (cd ++ c0) a4 τ → PP p st → (∀ o, o ∈ pend → Ops p o) → ∃ τ', lp τ h d 0 a4 = some (0, τ') ∧ XR n T k' τ' ∧ Fr τ0 τ' h)) ∨
      (∃ c2 k', k ≤ k' ∧ k' ≤ n ∧ stopB n T p k' ∧ (∀ a σ v c, MR a n T k 0 σ → RunsTo (σ.2.1 49) c v → ∃ v' σ', F fu σ v = some (v', σ') ∧ Lk σ σ' ∧ MR a n T k' 0 σ' ∧ RunsTo (σ.2.1 49) (c ++ c2) v') ∧ (∀ τ0 h e d st cd a4 τ pend c0, Rdy τ0 h n T e k d (pend ++ st) (cd ++ c0) a4 τ → PP p st → (∀ o, o ∈ pend → Ops p o) → ∃ τ' a4' pend' c0', lp τ h d 0 a4 = lp τ' h d 0 a4' ∧ Rdy τ0 h n T e k' d (pend' ++ st) (cd ++ c0') a4' τ' ∧ c0' ++ pend'.map opc = (c0 ++ pend.map opc) ++ c2 ∧ ∀ o, o ∈ pend' → Ops p o)) := by
    intro d
    induction d with
    | zero =>
      intro k fu hd hk hf hm hs
      obtain ⟨f, rfl, -⟩ := fuel hf
      have no : ¬ ((bt n T k = 43 ∨ bt n T k = 45 ∨ bt n T k = 42) ∧ strn (bt n T k) = p) := by
        rintro ⟨a, -⟩
        have : k < n := bt_lt (c := bt n T k) rfl (by rcases a with e | e | e <;> rw [e] <;> decide)
        omega
      refine Or.inr ⟨[], k, Nat.le_refl _, hk, fun g => hs ?_, fun a σ v c h r => ⟨v, σ, F2 f a k σ v h no, Lk.rfl, h, by rw [List.append_nil]; exact r⟩, fun τ0 h e d st cd a4 τ pend c0 r _ ho => ⟨τ, a4, pend, c0, rfl, r, by rw [List.append_nil], ho⟩⟩
      exact Classical.byContradiction fun q => no ⟨g.1, opsDn _ g q⟩
    | succ d ih =>
      intro k fu hd hk hf hm hs
      obtain ⟨f, rfl, hf2⟩ := fuel hf
      by_cases yes : (bt n T k = 43 ∨ bt n T k = 45 ∨ bt n T k = 42) ∧ strn (bt n T k) = p
      · have kn : k < n := bt_lt (c := bt n T k) rfl (by rcases yes.1 with e | e | e <;> rw [e] <;> decide)
        have F3' := fun a σ v h => F3 f a k σ v h yes
        have yp := opsEq _ yes.1 yes.2
        obtain ⟨f1, rfl⟩ : ∃ f1, f = f1 + 1 := ⟨f - 1, by omega⟩
        rcases hO (k + 1) (by omega) (by omega) with ⟨k', h1, h2, h3, h4⟩ | ⟨c1, k1, h1, h2, h3, h4, h5⟩
        · refine Or.inl ⟨k', by omega, h2, fun a σ v h => ?_, fun τ0 h e d st cd a4 τ pend c0 r hS ho => ?_⟩
          · obtain ⟨v1, σ1, j1, j2, j3⟩ := h3 a _ (h.go kn)
            refine ⟨opv (bt n T k) v v1, σ1, ?_, (Lk.i (by simp)).trans j2, j3⟩
            rw [F3' a σ v h, j1, bind_pq, F1 f1 _ _ j3.2.2.2.2.1]
          · obtain ⟨τ1, e1, r1⟩ := lp_op hT rfl yes.1 yes.2 r hS ho
            rw [e1]
            exact h4 τ0 h e d _ _ _ _ r1 (ppOp _ _ yes.2)
        · rcases ih k1 (f1 + 1) (by omega) h2 (by omega) (by omega) h3 with ⟨k', i1, i2, i3, i4⟩ | ⟨c2, k', i1, i2, i3, i4, i5⟩
          · refine Or.inl ⟨k', by omega, i2, fun a σ v h => ?_, fun τ0 h e d st cd a4 τ pend c0 r hS ho => ?_⟩
            · obtain ⟨v1, σ1, j1, j2, j3, j4⟩ := h4 a _ (h.go kn)
              obtain ⟨v2, σ2, l1, l2, l3⟩ := i3 a σ1 (opv (bt n T k) v v1) j3
              refine ⟨v2, σ2, ?_, ((Lk.i (by simp)).trans j2).trans l2, l3⟩
              rw [F3' a σ v h, j1, bind_pq]
              exact l1
            · obtain ⟨τ1, e1, r1⟩ := lp_op hT rfl yes.1 yes.2 r hS ho
              obtain ⟨τ2, a42, pd, c02, e2, r2, e3, o2⟩ := h5 τ0 h e d _ _ _ _ r1 (ppOp _ _ yes.2)
              rw [e1, e2]
              refine i4 τ0 h e d st cd a42 τ2 (pd ++ [bt n T k]) (c0 ++ pend.map opc ++ c02) ?_ hS fun x hx => ?_
              · rw [List.append_assoc pd, ← List.append_assoc cd]
                rw [show [bt n T k] ++ st = bt n T k :: st from rfl]
                exact r2
              · rcases List.mem_append.mp hx with g | g
                · exact opsUp _ (o2 x g)
                · rw [List.mem_singleton.mp g]; exact yp
          · refine Or.inr ⟨c1 ++ [opc (bt n T k)] ++ c2, k', by omega, i2, i3, fun a σ v c h rv => ?_, fun τ0 h e d st cd a4 τ pend c0 r hS ho => ?_⟩
            · obtain ⟨v1, σ1, j1, j2, j3, j4⟩ := h4 a _ (h.go kn)
              have lk1 : Lk σ σ1 := (Lk.i (by simp)).trans j2
              obtain ⟨v2, σ2, l1, l2, l3, l4⟩ := i4 a σ1 (opv (bt n T k) v v1) (c ++ c1 ++ [opc (bt n T k)]) j3 (by rw [lk1.2]; exact opc_run yes.1 rv j4)
              refine ⟨v2, σ2, ?_, lk1.trans l2, l3, ?_⟩
              · rw [F3' a σ v h, j1, bind_pq]
                exact l1
              · rw [lk1.2] at l4
                rw [← List.append_assoc, ← List.append_assoc]
                exact l4
            · obtain ⟨τ1, e1, r1⟩ := lp_op hT rfl yes.1 yes.2 r hS ho
              obtain ⟨τ2, a42, pd, c02, e2, r2, e3, o2⟩ := h5 τ0 h e d _ _ _ _ r1 (ppOp _ _ yes.2)
              obtain ⟨τ3, a43, pd3, c03, e4, r3, e5, o3⟩ := i5 τ0 h e d st cd a42 τ2 (pd ++ [bt n T k]) (c0 ++ pend.map opc ++ c02) (by
                rw [List.append_assoc pd, ← List.append_assoc cd]
                rw [show [bt n T k] ++ st = bt n T k :: st from rfl]
                exact r2) hS (fun x hx => by
                rcases List.mem_append.mp hx with g | g
                · exact opsUp _ (o2 x g)
                · rw [List.mem_singleton.mp g]; exact yp)
              refine ⟨τ3, a43, pd3, c03, by rw [e1, e2, e4], r3, ?_, o3⟩
              rw [e5, List.map_append, ← e3]
              simp only [List.append_assoc, List.map_cons, List.map_nil]
      · refine Or.inr ⟨[], k, Nat.le_refl _, hk, fun g => hs ?_, fun a σ v c h r => ⟨v, σ, F2 f a k σ v h yes, Lk.rfl, h, by rw [List.append_nil]; exact r⟩, fun τ0 h e d st cd a4 τ pend c0 r _ ho => ⟨τ, a4, pend, c0, rfl, r, by rw [List.append_nil], ho⟩⟩
        exact Classical.byContradiction fun q => yes ⟨g.1, opsDn _ g q⟩
  rcases hO k hk hm with ⟨k', h1, h2, h3, h4⟩ | ⟨c1, k1, h1, h2, h3, h4, h5⟩
  · refine Or.inl ⟨k', h1, h2, fun a σ h => ?_, fun τ0 h e d st cd a4 τ r hS => h4 τ0 h e d st cd a4 τ r (ppUp _ hS)⟩
    obtain ⟨v1, σ1, j1, j2, j3⟩ := h3 a σ h
    refine ⟨v1, σ1, ?_, j2, j3⟩
    show (o σ).bind _ = _
    rw [j1, bind_pq]
    exact F1 99999 _ _ j3.2.2.2.2.1
  · rcases loop (n - k1) k1 100000 (Nat.le_refl _) h2 (by omega) (by omega) h3 with ⟨k', i1, i2, i3, i4⟩ | ⟨c2, k', i1, i2, i3, i4, i5⟩
    · refine Or.inl ⟨k', by omega, i2, fun a σ h => ?_, fun τ0 h e d st cd a4 τ r hS => ?_⟩
      · obtain ⟨v1, σ1, j1, j2, j3, j4⟩ := h4 a σ h
        obtain ⟨v2, σ2, l1, l2, l3⟩ := i3 a σ1 v1 j3
        refine ⟨v2, σ2, ?_, j2.trans l2, l3⟩
        show (o σ).bind _ = _
        rw [j1, bind_pq]
        exact l1
      · obtain ⟨τ2, a42, pd, c02, e2, r2, e3, o2⟩ := h5 τ0 h e d st cd a4 τ r (ppUp _ hS)
        rw [e2]
        exact i4 τ0 h e d st cd a42 τ2 pd c02 r2 hS fun x hx => opsUp _ (o2 x hx)
    · refine Or.inr ⟨c1 ++ c2, k', by omega, i2, i3, fun a σ h => ?_, fun τ0 h e d st cd a4 τ r hS => ?_⟩
      · obtain ⟨v1, σ1, j1, j2, j3, j4⟩ := h4 a σ h
        obtain ⟨v2, σ2, l1, l2, l3, l4⟩ := i4 a σ1 v1 c1 j3 (by rw [j2.2]; exact j4)
        refine ⟨v2, σ2, ?_, j2.trans l2, l3, by rw [j2.2] at l4; exact l4⟩
        show (o σ).bind _ = _
        rw [j1, bind_pq]
        exact l1
      · obtain ⟨τ2, a42, pd, c02, e2, r2, e3, o2⟩ := h5 τ0 h e d st cd a4 τ r (ppUp _ hS)
        obtain ⟨τ3, a43, pd3, c03, e4, r3, e5, o3⟩ := i5 τ0 h e d st cd a42 τ2 pd c02 r2 hS fun x hx => opsUp _ (o2 x hx)
        exact ⟨τ3, a43, pd3, c03, by rw [e2, e4], r3, by rw [e5, e3], o3⟩
