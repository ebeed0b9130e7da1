/-! a clause is read -/
def RTests (n : Nat) (T : Nat → Int32) (k k' : Nat) (c : List Int32) : Prop := ∀ a σ, MR a n T k 0 σ → ∃ b σ', M_tests σ = some (b, σ') ∧ Lk σ σ' ∧ MR a n T k' 0 σ' ∧ (b = 0 ∨ b = 1) ∧ TestsTo (σ.2.1 49) c b
def condM (σ : MS) (a i : Nat) : Option (Unit × MS) := if (σ.1 48) = 0 then (M_byteAt σ).bind fun r5 => (if r5 = 32 then (M_musts σ 1000004).bind (pq fun _ r6s => (wr 72 (nI i) ((M_tests (sA r6s 24 (upd (r6s.2.1 24) (nI i).toNatClampNeg (r6s.1 47)))).bind (pq fun _ r7s => (M_readsClause_J96 r7s (nI a)))))) else M_readsClause_J96 σ (nI a)) else M_readsClause_J96 σ (nI a)
/-- only place i of row 24 has changed -/
def F24 (i : Nat) (σ σ' : MS) : Prop := (∀ j, j ≠ 46 → j ≠ 47 → j ≠ 48 → σ'.1 j = σ.1 j) ∧ (∀ r, r ≠ 24 → σ'.2.1 r = σ.2.1 r) ∧ (∀ x, x ≠ i → σ'.2.1 24 x = σ.2.1 24 x) ∧ σ'.2.2 = σ.2.2
theorem F24.lk {i : Nat} {σ σ' : MS} (h : Lk σ σ') : F24 i σ σ' := ⟨h.1, fun r _ => by rw [h.2], fun x _ => by rw [h.2], by rw [h.2]⟩
theorem F24.trans {i : Nat} {a b c : MS} (h : F24 i a b) (g : F24 i b c) : F24 i a c := ⟨fun j x y z => (g.1 j x y z).trans (h.1 j x y z), fun r x => (g.2.1 r x).trans (h.2.1 r x), fun x y => (g.2.2.1 x y).trans (h.2.2.1 x y), g.2.2.2.trans h.2.2.2⟩
theorem F24.put {i : Nat} {σ : MS} {v : Int32} : F24 i σ (sA σ 24 (upd (σ.2.1 24) i v)) := ⟨fun _ _ _ _ => rfl, fun _ h => sA_ne h, fun x hx => by rw [sA_get, upd_no hx], rfl⟩
theorem MR.row {a n k r : Nat} {T : Nat → Int32} {w : Int32} {σ : MS} {f : Nat → Int32} (h : MR a n T k w σ) (h1 : r ≠ 22) (h2 : r ≠ 25) : MR a n T k w (sA σ r f) := by
  obtain ⟨g1, g2, g3, g4, g5, g6, g7⟩ := h
  exact ⟨g1, g2, g3, g4, g5, by rw [sA_ne (Ne.symm h2)]; exact g6, fun i hi => by rw [sA_ne (Ne.symm h1)]; exact g7 i hi⟩
theorem tests_w {a n k : Nat} {T : Nat → Int32} {σ : MS} (hT : TpOK n T) (h : MR a n T k 1 σ) : ∃ b σ', M_tests σ = some (b, σ') ∧ Lk σ σ' ∧ MR a n T k 1 σ' := by
  obtain ⟨b, σ', g1, g2, g3, g4⟩ := test_w hT h
  refine ⟨b, σ', ?_, g2, g3⟩
  obtain ⟨f, hf, -⟩ := fuel (show 0 < 100000 by decide)
  unfold M_tests M_tests_L5
  rw [g1, bind_pq, hf, M_tests_L5_r, if_neg (by rw [g3.2.2.2.2.1]; decide)]
  rcases g4 with rfl | rfl
  · rw [bz_0]
  · rw [bz_1]
theorem conds_of {n : Nat} {T : Nat → Int32} (hT : TpOK n T) (k : Nat) (hk : k ≤ n) (h1 : 1 ≤ k) :
    (∃ k', k ≤ k' ∧ k' ≤ n ∧ (∀ a i σ, i < 72 → MR a n T k 0 σ → ∃ σ', condM σ a i = M_readsClause_J96 σ' (nI a) ∧ F24 i σ σ' ∧ MR a n T k' 1 σ') ∧ ∀ τ0 h e st cd τ j, Qc τ0 h n T k st cd τ → cd.length + e ≤ k → ∃ τ', Tp_readClause_L75 100000 τ (some h) j 0 = some (0, τ') ∧ XR n T k' τ' ∧ Fr τ0 τ' h) ∨
    (∃ c k', k ≤ k' ∧ k' ≤ n ∧ (∀ a i σ, i < 72 → MR a n T k 0 σ → σ.2.1 24 i = -1 → ∃ σ', condM σ a i = M_readsClause_J96 σ' (nI a) ∧ F24 i σ σ' ∧ MR a n T k' 0 σ' ∧ ((c = [] ∧ σ'.2.1 24 i = -1) ∨ ∃ k2, k2 ≤ n ∧ σ'.2.1 24 i = nI k2 ∧ RTests n T k2 k' c)) ∧ ∀ τ0 h e st cd τ j, Qc τ0 h n T k st cd τ → cd.length + e ≤ k → ∃ st' τ', Tp_readClause_L75 100000 τ (some h) j 0 = Tp_readClause_J170 τ' (some h) j ∧ Qc τ0 h n T k' st' (cd ++ c) τ' ∧ (cd ++ c).length + e ≤ k') := by
  have hn := hT.1
  obtain ⟨f, hf, hf2⟩ := fuel (show 99999 < 100000 by decide)
  by_cases b32 : bt n T k = 32
  · have kn : k < n := bt_lt b32 (by decide)
    have refE : ∀ a i σ, i < 72 → MR a n T k 0 σ → condM σ a i = (M_musts σ 1000004).bind (pq fun _ r6s => ((M_tests (sA r6s 24 (upd (r6s.2.1 24) i (r6s.1 47)))).bind (pq fun _ r7s => (M_readsClause_J96 r7s (nI a))))) := by
      intro a i σ hi h
      unfold condM
      rw [if_pos h.2.2.2.2.1, h.byte hT, bind_so, if_pos b32]
      congr 1
      funext p
      show wr 72 (nI i) _ = _
      rw [wr_nI hi (by decide), cl_nI (by omega)]; rfl
    have clsE : ∀ τ0 h st cd τ (j : Int32) r τ1, Qc τ0 h n T k st cd τ → Tp_readAll τ 1000004 = some (r, τ1) → Tp_readClause_L75 100000 τ (some h) j 0 = if r = 0 then some (0, τ1) else testX (Tp_readClause_L75_r f) τ1 h j 0 := by
      intro τ0 h st cd τ j r τ1 q e
      unfold Tp_readClause_L75
      rw [hf, Tp_readClause_L75_r, if_neg (by decide), q.2.1.next hT, bind_so, if_pos b32, if_pos rfl]
      exact J105_X e
    have mw := fun a (σ : MS) (h : MR a n T k 0 σ) => all_M (q := 1000004) hT strI 0 k 100000 (ex_C if_C) if_C (by decide) (by decide) (by decide) (by decide) σ h
    have xw := fun τ0 h st cd τ (q : Qc τ0 h n T k st cd τ) => all_X (q := 1000004) hT strI 0 k 100000 if_C (by decide) (by decide) (by decide) (by decide) τ0 h st cd τ q
    have len := @ml_n n T strI k hk (by decide)
    have lle := @ml_le (bt n T) strI k
    have s4 : strI.length = 4 := rfl
    by_cases full : ml (bt n T) strI k = strI.length
    · -- the tests as a whole
      have whole : (∃ k', k + 4 ≤ k' ∧ k' ≤ n ∧ (∀ a σ, MR a n T (k + 4) 0 σ → ∃ b σ', M_tests σ = some (b, σ') ∧ Lk σ σ' ∧ MR a n T k' 1 σ') ∧ ∀ τ0 h e st cd τ j, Qc τ0 h n T (k + 4) st cd τ → cd.length + e ≤ k + 4 → ∃ τ', testX (Tp_readClause_L75_r f) τ h j 0 = some (0, τ') ∧ XR n T k' τ' ∧ Fr τ0 τ' h) ∨ (∃ c k', k + 4 ≤ k' ∧ k' ≤ n ∧ RTests n T (k + 4) k' c ∧ ∀ τ0 h e st cd τ j, Qc τ0 h n T (k + 4) st cd τ → cd.length + e ≤ k + 4 → ∃ st' τ', testX (Tp_readClause_L75_r f) τ h j 0 = Tp_readClause_J170 τ' (some h) j ∧ Qc τ0 h n T k' st' (cd ++ c) τ' ∧ (cd ++ c).length + e ≤ k') := by
        rw [full, s4] at len
        rcases test_of hT (k + 4) len (by omega) with ⟨k', b1, b2, b3, b4⟩ | ⟨c1, c2, x, k1, b1, b2, b3, b4, b5⟩
        · refine Or.inl ⟨k', b1, b2, fun a σ h => ?_, fun τ0 h e st cd τ j q l => b4 _ τ0 h e st cd τ j 0 q l⟩
          obtain ⟨b, σ', g1, g2, g3, g4⟩ := b3 a σ h
          refine ⟨b, σ', ?_, g2, g3⟩
          unfold M_tests M_tests_L5
          rw [g1, bind_pq, hf, M_tests_L5_r, if_neg (by rw [g3.2.2.2.2.1]; decide)]
          rcases g4 with rfl | rfl
          · rw [bz_0]
          · rw [bz_1]
        · rcases tests_loop hT (n - k1) k1 100000 f 1 (Nat.le_refl _) b2 (Nat.le_refl _) (by omega) (by omega) (by omega) with ⟨k', i1, i2, i3, i4⟩ | ⟨c, k', i1, i2, i3, i4⟩
          · refine Or.inl ⟨k', by omega, i2, fun a σ h => ?_, fun τ0 h e st cd τ j q l => ?_⟩
            · obtain ⟨v, w, σ1, g1, g2, g3, -, -⟩ := b4 a σ h
              obtain ⟨b', σ2, u1, u2, u3⟩ := i3 a σ1 _ (cmpv01 (x := x) (v := v) (w := w)) g3
              exact ⟨b', σ2, by unfold M_tests M_tests_L5; rw [g1, bind_pq, u1], g2.trans u2, u3⟩
            · obtain ⟨τ1, g1, g2, g3⟩ := b5 (Tp_readClause_L75_r f) τ0 h e st cd τ j 0 q l
              rw [g1]
              exact i4 τ0 h e _ _ τ1 j g2 g3
          · refine Or.inr ⟨c1 ++ c2 ++ [ccd x] ++ c, k', by omega, i2, fun a σ h => ?_, fun τ0 h e st cd τ j q l => ?_⟩
            · obtain ⟨v, w, σ1, g1, g2, g3, g4, g5⟩ := b4 a σ h
              obtain ⟨b', σ2, u1, u2, u3, u4⟩ := i3 a σ1 _ (cmpv01 (x := x) (v := v) (w := w)) g3
              have tt := TestsTo.cons (nm := σ.2.1 49) b3 g4 g5 (by rw [g2.2] at u4; exact u4)
              refine ⟨_, σ2, by unfold M_tests M_tests_L5; rw [g1, bind_pq, u1], g2.trans u2, u3, ?_, tt⟩
              obtain ⟨m, hm⟩ := tt
              exact hm.b01
            · obtain ⟨τ1, g1, g2, g3⟩ := b5 (Tp_readClause_L75_r f) τ0 h e st cd τ j 0 q l
              obtain ⟨st', τ2, u1, u2, u3⟩ := i4 τ0 h e _ _ τ1 j g2 g3
              exact ⟨st', τ2, by rw [g1]; exact u1, by rw [← List.append_assoc cd]; exact u2, by rw [← List.append_assoc cd]; exact u3⟩
      rcases whole with ⟨k', w1, w2, w3, w4⟩ | ⟨c, k', w1, w2, w3, w4⟩
      · refine Or.inl ⟨k', by omega, w2, fun a i σ hi h => ?_, fun τ0 h e st cd τ j q l => ?_⟩
        · obtain ⟨σ1, g1, g2, g3⟩ := mw a σ h
          have g4 := (g3.resolve_right fun g => by omega).2
          rw [full, s4] at g4
          have g1' : M_musts σ 1000004 = some ((), σ1) := g1
          obtain ⟨b, σ2, u1, u2, u3⟩ := w3 a _ (g4.row (r := 24) (f := upd (σ1.2.1 24) i (σ1.1 47)) (by decide) (by decide))
          exact ⟨σ2, by rw [refE a i σ hi h, g1', bind_pq, u1, bind_pq], ((F24.lk g2).trans F24.put).trans (F24.lk u2), u3⟩
        · obtain ⟨τ1, r, g1, g2, g3⟩ := xw τ0 h st cd τ q
          have g4 := (g3.resolve_right fun g => by omega).2
          subst g4
          rw [full, s4] at g2
          rw [clsE τ0 h st cd τ j 1 τ1 q g1, if_neg n10]
          exact w4 τ0 h e st cd τ1 j g2 (by omega)
      · refine Or.inr ⟨c, k', by omega, w2, fun a i σ hi h _ => ?_, fun τ0 h e st cd τ j q l => ?_⟩
        · obtain ⟨σ1, g1, g2, g3⟩ := mw a σ h
          have g4 := (g3.resolve_right fun g => by omega).2
          rw [full, s4] at g4
          have g1' : M_musts σ 1000004 = some ((), σ1) := g1
          obtain ⟨b, σ2, u1, u2, u3, u4, u5⟩ := w3 a _ (g4.row (r := 24) (f := upd (σ1.2.1 24) i (σ1.1 47)) (by decide) (by decide))
          refine ⟨σ2, by rw [refE a i σ hi h, g1', bind_pq, u1, bind_pq], ((F24.lk g2).trans F24.put).trans (F24.lk u2), u3, Or.inr ⟨k + 4, by omega, ?_, w3⟩⟩
          rw [u2.2, sA_get, upd_at, g4.2.2.2.1]
        · obtain ⟨τ1, r, g1, g2, g3⟩ := xw τ0 h st cd τ q
          have g4 := (g3.resolve_right fun g => by omega).2
          subst g4
          rw [full, s4] at g2
          rw [clsE τ0 h st cd τ j 1 τ1 q g1, if_neg n10]
          exact w4 τ0 h e st cd τ1 j g2 (by omega)
    · refine Or.inl ⟨k + ml (bt n T) strI k, by omega, len, fun a i σ hi h => ?_, fun τ0 h e st cd τ j q l => ?_⟩
      · obtain ⟨σ1, g1, g2, g3⟩ := mw a σ h
        have g4 := (g3.resolve_left fun g => full g.1).2
        have g1' : M_musts σ 1000004 = some ((), σ1) := g1
        obtain ⟨b, σ2, u1, u2, u3⟩ := tests_w hT (g4.row (r := 24) (f := upd (σ1.2.1 24) i (σ1.1 47)) (by decide) (by decide))
        exact ⟨σ2, by rw [refE a i σ hi h, g1', bind_pq, u1, bind_pq], ((F24.lk g2).trans F24.put).trans (F24.lk u2), u3⟩
      · obtain ⟨τ1, r, g1, g2, g3⟩ := xw τ0 h st cd τ q
        have g4 := (g3.resolve_left fun g => full g.1).2
        subst g4
        exact ⟨τ1, by rw [clsE τ0 h st cd τ j 0 τ1 q g1, if_pos rfl], g2.2.1, g2.2.2.2.2.2.2⟩
  · refine Or.inr ⟨[], k, Nat.le_refl _, hk, fun a i σ hi h e => ⟨σ, ?_, F24.lk Lk.rfl, h, Or.inl ⟨rfl, e⟩⟩, fun τ0 h e st cd τ j q l => ⟨st, τ, ?_, by rw [List.append_nil]; exact q, by rw [List.append_nil]; exact l⟩⟩
    · unfold condM
      rw [if_pos h.2.2.2.2.1, h.byte hT, bind_so, if_neg b32]
    · unfold Tp_readClause_L75
      rw [hf, Tp_readClause_L75_r, if_neg (by decide), q.2.1.next hT, bind_so, if_neg b32]
/-- what clause j of act a may change -/
def FC (a j : Nat) (σ σ' : MS) : Prop := (∀ i, i ≠ 46 → i ≠ 47 → i ≠ 48 → σ'.1 i = σ.1 i) ∧ (∀ r, r ≠ 18 → r ≠ 20 → r ≠ 21 → r ≠ 23 → r ≠ 24 → σ'.2.1 r = σ.2.1 r) ∧ (∀ i, i ≠ a → σ'.2.1 18 i = σ.2.1 18 i) ∧ (∀ i, i ≠ 8 * a + j → σ'.2.1 20 i = σ.2.1 20 i ∧ σ'.2.1 21 i = σ.2.1 21 i ∧ σ'.2.1 23 i = σ.2.1 23 i ∧ σ'.2.1 24 i = σ.2.1 24 i) ∧ σ'.2.2 = σ.2.2
theorem FC.trans {a j : Nat} {x y z : MS} (h : FC a j x y) (g : FC a j y z) : FC a j x z := by
  obtain ⟨h1, h2, h3, h4, h5⟩ := h
  obtain ⟨g1, g2, g3, g4, g5⟩ := g
  exact ⟨fun i a b c => (g1 i a b c).trans (h1 i a b c), fun r a b c d e => (g2 r a b c d e).trans (h2 r a b c d e), fun i a => (g3 i a).trans (h3 i a), fun i q => ⟨(g4 i q).1.trans (h4 i q).1, (g4 i q).2.1.trans (h4 i q).2.1, (g4 i q).2.2.1.trans (h4 i q).2.2.1, (g4 i q).2.2.2.trans (h4 i q).2.2.2⟩, g5.trans h5⟩
theorem FC.lk {a j : Nat} {σ σ' : MS} (h : Lk σ σ') : FC a j σ σ' := ⟨h.1, fun _ _ _ _ _ _ => by rw [h.2], fun _ _ => by rw [h.2], fun _ _ => by rw [h.2]; exact ⟨rfl, rfl, rfl, rfl⟩, by rw [h.2]⟩
theorem FC.f24 {a j : Nat} {σ σ' : MS} (h : F24 (8 * a + j) σ σ') : FC a j σ σ' := ⟨h.1, fun r _ _ _ _ e => h.2.1 r e, fun i _ => by rw [h.2.1 18 (by decide)], fun i q => ⟨by rw [h.2.1 20 (by decide)], by rw [h.2.1 21 (by decide)], by rw [h.2.1 23 (by decide)], h.2.2.1 i q⟩, h.2.2.2⟩
theorem FC.put {a j r : Nat} {σ : MS} {v : Int32} (hr : r = 20 ∨ r = 21 ∨ r = 23 ∨ r = 24) : FC a j σ (sA σ r (upd (σ.2.1 r) (8 * a + j) v)) := by
  refine ⟨fun _ _ _ _ => rfl, fun x _ h2 h3 h4 h5 => sA_ne (by omega), fun i _ => by rw [sA_ne (by omega)], fun i q => ?_, rfl⟩
  rcases hr with rfl | rfl | rfl | rfl
  · exact ⟨by rw [sA_get, upd_no q], by rw [sA_ne (by decide)], by rw [sA_ne (by decide)], by rw [sA_ne (by decide)]⟩
  · exact ⟨by rw [sA_ne (by decide)], by rw [sA_get, upd_no q], by rw [sA_ne (by decide)], by rw [sA_ne (by decide)]⟩
  · exact ⟨by rw [sA_ne (by decide)], by rw [sA_ne (by decide)], by rw [sA_get, upd_no q], by rw [sA_ne (by decide)]⟩
  · exact ⟨by rw [sA_ne (by decide)], by rw [sA_ne (by decide)], by rw [sA_ne (by decide)], by rw [sA_get, upd_no q]⟩
theorem FC.cnt {a j : Nat} {σ : MS} {v : Int32} : FC a j σ (sA σ 18 (upd (σ.2.1 18) a v)) := ⟨fun _ _ _ _ => rfl, fun x h _ _ _ _ => sA_ne h, fun i q => by rw [sA_get, upd_no q], fun i _ => ⟨by rw [sA_ne (by decide)], by rw [sA_ne (by decide)], by rw [sA_ne (by decide)], by rw [sA_ne (by decide)]⟩, rfl⟩
def FW (τ0 τ : XS) (h j : Nat) : Prop := (∀ i, i ≠ 702 → i ≠ 704 → τ.1 i = τ0.1 i) ∧ (∀ i, i ≠ 703 → τ.2.1 i = τ0.2.1 i) ∧ τ.2.2.1 = τ0.2.2.1 ∧ nA τ = nA τ0 ∧ τ.2.2.2.2.1 = τ0.2.2.2.2.1 ∧ τ.2.2.2.2.2.1 = τ0.2.2.2.2.2.1 ∧ (∀ x, x ≠ h → τ.2.2.2.2.2.2 x = τ0.2.2.2.2.2.2 x) ∧ (∀ i, i ≠ 9 → i ≠ 2 → tF τ h i = tF τ0 h i) ∧ tA τ h 7 = tA τ0 h 7 ∧ ∀ i, i ≠ j → tA τ h 3 i = tA τ0 h 3 i ∧ tA τ h 4 i = tA τ0 h 4 i ∧ tA τ h 5 i = tA τ0 h 5 i ∧ tA τ h 6 i = tA τ0 h 6 i
theorem FW.trans {a b c : XS} {h j : Nat} (f : FW a b h j) (g : FW b c h j) : FW a c h j := by
  obtain ⟨f1, f2, f3, f4, f5, f6, f7, f8, f9, f0⟩ := f
  obtain ⟨g1, g2, g3, g4, g5, g6, g7, g8, g9, g0⟩ := g
  exact ⟨fun i x y => (g1 i x y).trans (f1 i x y), fun i x => (g2 i x).trans (f2 i x), g3.trans f3, g4.trans f4, g5.trans f5, g6.trans f6, fun x y => (g7 x y).trans (f7 x y), fun i x y => (g8 i x y).trans (f8 i x y), g9.trans f9, fun i q => ⟨(g0 i q).1.trans (f0 i q).1, (g0 i q).2.1.trans (f0 i q).2.1, (g0 i q).2.2.1.trans (f0 i q).2.2.1, (g0 i q).2.2.2.trans (f0 i q).2.2.2⟩⟩
theorem Fr.fw {a b : XS} {h j : Nat} (f : Fr a b h) : FW a b h j := by
  obtain ⟨f1, f2, f3, f4, f5, f6, f7, f8, f9⟩ := f
  exact ⟨f1, f2, f3, f4, f5, f6, f7, fun i x _ => f8 i x, f9 7 (by decide), fun i _ => ⟨by rw [f9 3 (by decide)], by rw [f9 4 (by decide)], by rw [f9 5 (by decide)], by rw [f9 6 (by decide)]⟩⟩
theorem FW.put {τ : XS} {h j r : Nat} {v : Int32} (hr : r = 3 ∨ r = 4 ∨ r = 5 ∨ r = 6) : FW τ (xTA τ h r (upd (tA τ h r) j v)) h j := by
  refine ⟨fun _ _ _ => rfl, fun _ _ => rfl, rfl, rfl, rfl, rfl, fun x q => TA_o q, fun _ _ _ => TA_F, TA_An (by omega), fun i q => ?_⟩
  rcases hr with rfl | rfl | rfl | rfl
  · exact ⟨by rw [TA_A, upd_no q], by rw [TA_An (by decide)], by rw [TA_An (by decide)], by rw [TA_An (by decide)]⟩
  · exact ⟨by rw [TA_An (by decide)], by rw [TA_A, upd_no q], by rw [TA_An (by decide)], by rw [TA_An (by decide)]⟩
  · exact ⟨by rw [TA_An (by decide)], by rw [TA_An (by decide)], by rw [TA_A, upd_no q], by rw [TA_An (by decide)]⟩
  · exact ⟨by rw [TA_An (by decide)], by rw [TA_An (by decide)], by rw [TA_An (by decide)], by rw [TA_A, upd_no q]⟩
theorem FW.two {τ : XS} {h j : Nat} {v : Int32} : FW τ (xTI τ h 2 v) h j := ⟨fun _ _ _ => rfl, fun _ _ => rfl, rfl, rfl, rfl, rfl, fun x q => TI_o q, fun _ _ q => TI_Fn q, TI_A, fun _ _ => ⟨by rw [TI_A], by rw [TI_A], by rw [TI_A], by rw [TI_A]⟩⟩
theorem Qc.base {τ0 τ : XS} {h n k : Nat} {T : Nat → Int32} {st cd : List Int32} (q : Qc τ0 h n T k st cd τ) : Qc τ h n T k st cd τ := by
  obtain ⟨h1, h2, h6, h7, h8, h9, h10⟩ := q
  exact ⟨h1, h2, h6, h7, h8, h9, Fr.rfl⟩
theorem Qc.row {τ0 τ : XS} {h n k r : Nat} {T : Nat → Int32} {st cd : List Int32} {f : Nat → Int32} (q : Qc τ0 h n T k st cd τ) (hr : r ≠ 8) : Qc (xTA τ h r f) h n T k st cd (xTA τ h r f) := by
  obtain ⟨h1, h2, h6, h7, h8, h9, h10⟩ := q
  exact ⟨h1, h2, h6, h7, TA_F.trans h8, fun i x hx => by rw [TA_An (Ne.symm hr)]; exact h9 i x hx, Fr.rfl⟩
theorem Qc.fld {τ0 τ : XS} {h n k r : Nat} {T : Nat → Int32} {st cd : List Int32} {v : Int32} (q : Qc τ0 h n T k st cd τ) (hr : r ≠ 9) : Qc (xTI τ h r v) h n T k st cd (xTI τ h r v) := by
  obtain ⟨h1, h2, h6, h7, h8, h9, h10⟩ := q
  exact ⟨h1, h2, h6, h7, (TI_Fn (Ne.symm hr)).trans h8, fun i x hx => by rw [TI_A]; exact h9 i x hx, Fr.rfl⟩
def bodyX (τ : XS) (h : Nat) (j r1 : Int32) : Option (Int32 × XS) := (Tp_readAll τ 1000002).bind (pq fun r2 r2s => (if r2 = 0 then some (0, r2s) else oA (nA r2s) (some h) (fun a_2 => wr 8 j (oA (nA (xTA r2s a_2 3 (upd (tA r2s a_2 3) j.toNatClampNeg r1))) (some h) (fun a_3 => oA (nA (xTA r2s a_2 3 (upd (tA r2s a_2 3) j.toNatClampNeg r1))) (some h) (fun a_4 => wr 8 j ((Tp_readSum (xTA (xTA r2s a_2 3 (upd (tA r2s a_2 3) j.toNatClampNeg r1)) a_3 4 (upd (tA (xTA r2s a_2 3 (upd (tA r2s a_2 3) j.toNatClampNeg r1)) a_3 4) j.toNatClampNeg (tF (xTA r2s a_2 3 (upd (tA r2s a_2 3) j.toNatClampNeg r1)) a_4 9))) (some h)).bind (pq fun r3 r3s => (if r3 = 0 then some (0, r3s) else oA (nA r3s) (some h) (fun a_5 => oA (nA r3s) (some h) (fun a_6 => wr 8 j (Tp_readClause_L75 100000 (xTA r3s a_5 5 (upd (tA r3s a_5 5) j.toNatClampNeg (tF r3s a_6 9))) (some h) j 0))))))))))))
theorem clause_E {τ τ1 : XS} {h j : Nat} {r : Int32} (hA : h < nA τ) (e2 : tF τ h 2 = nI j) (hj : j < 8) (e : Tp_readWord τ 1000001 = some (r, τ1)) : Tp_readClause τ (some h) = if r < 0 then some (0, τ1) else bodyX τ1 h (nI j) r := by
  unfold Tp_readClause bodyX
  simp only [oA, if_pos hA]
  rw [e2, if_pos (show nI j < 8 from nI_lt (b := 8) hj (by decide)), e, bind_pq]
theorem bodyX_E {τ τ2 : XS} {h j : Nat} {r1 r2 : Int32} (hj : j < 8) (e : Tp_readAll τ 1000002 = some (r2, τ2)) (hA : h < nA τ2) : bodyX τ h (nI j) r1 = if r2 = 0 then some (0, τ2) else (Tp_readSum (xTA (xTA τ2 h 3 (upd (tA τ2 h 3) j r1)) h 4 (upd (tA (xTA τ2 h 3 (upd (tA τ2 h 3) j r1)) h 4) j (tF (xTA τ2 h 3 (upd (tA τ2 h 3) j r1)) h 9))) (some h)).bind (pq fun r3 r3s => (if r3 = 0 then some (0, r3s) else if h < nA r3s then Tp_readClause_L75 100000 (xTA r3s h 5 (upd (tA r3s h 5) j (tF r3s h 9))) (some h) (nI j) 0 else none)) := by
  have hA' : ∀ f, h < nA (xTA τ2 h 3 f) := fun _ => hA
  unfold bodyX
  rw [e, bind_pq]
  by_cases c : r2 = 0
  · rw [if_pos c, if_pos c]
  · rw [if_neg c, if_neg c]
    simp only [oA, if_pos hA, if_pos (hA' _)]
    rw [wr_nI (by omega) (by decide), wr_nI (by omega) (by decide), cl_nI (by omega)]
    congr 1
    funext p
    show (if p.1 = 0 then _ else _) = (if p.1 = 0 then _ else _)
    by_cases c3 : p.1 = 0
    · rw [if_pos c3, if_pos c3]
    · rw [if_neg c3, if_neg c3]
      by_cases c4 : h < nA p.2
      · simp only [if_pos c4]
        rw [wr_nI (by omega) (by decide)]
      · simp only [if_neg c4]
