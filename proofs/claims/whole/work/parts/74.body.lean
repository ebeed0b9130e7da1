/-! a clause after its subject, on both sides -/
theorem J96_E {a j : Nat} {σ : MS} (ha : a < 9) (hj : j < 100) (e : σ.2.1 18 a = nI j) : M_readsClause_J96 σ (nI a) = some ((), sA σ 18 (upd (σ.2.1 18) a (nI (j + 1)))) := by
  unfold M_readsClause_J96
  rw [rd_nI ha (by decide), wr_nI ha (by decide), cl_nI (by omega), e, nI_1]
theorem clause_R {a j : Nat} {σ : MS} {s : Int32} (ha : a < 9) (hj : j < 8) (e : σ.2.1 18 a = nI j) : M_readsClause σ (nI a) s = (M_must (sA (sA σ 20 (upd (σ.2.1 20) (8 * a + j) s)) 21 (upd (σ.2.1 21) (8 * a + j) 10000)) 61).bind (pq fun _ r2s => (M_sums (M_oneR 200) (sA r2s 23 (upd (r2s.2.1 23) (8 * a + j) (r2s.1 47)))).bind (pq fun _ r3s => condM (sA r3s 24 (upd (r3s.2.1 24) (8 * a + j) (-1))) a (8 * a + j))) := by
  have idx : (8 : Int32) * nI a + nI j = nI (8 * a + j) := by rw [show (8 : Int32) = nI 8 from rfl, nI_mul, nI_add]
  have hw : ∀ k : Option (Unit × MS), wr 72 (nI (8 * a + j)) k = k := fun k => wr_nI (by omega) (by decide)
  have hc : (nI (8 * a + j)).toNatClampNeg = 8 * a + j := cl_nI (by omega)
  have h21 : (sA σ 20 (upd (σ.2.1 20) (8 * a + j) s)).2.1 21 = σ.2.1 21 := sA_ne (by decide)
  unfold M_readsClause
  rw [rd_nI ha (by decide), e, idx]
  simp only [condM, hw, hc, h21]
theorem clause_w {a n k j : Nat} {T : Nat → Int32} {w s : Int32} {σ : MS} (hT : TpOK n T) (h : MR a n T k w σ) (hw : w = 1 ∨ (w = 0 ∧ bt n T k ≠ 61)) (hj : j < 8) (e : σ.2.1 18 a = nI j) : ∃ σ', M_readsClause σ (nI a) s = some ((), σ') ∧ FC a j σ σ' ∧ MR a n T k 1 σ' := by
  have ha := h.1
  have m0 : MR a n T k w (sA (sA σ 20 (upd (σ.2.1 20) (8 * a + j) s)) 21 (upd (σ.2.1 21) (8 * a + j) 10000)) := (h.row (by decide) (by decide)).row (by decide) (by decide)
  have f0 : FC a j σ (sA (sA σ 20 (upd (σ.2.1 20) (8 * a + j) s)) 21 (upd (σ.2.1 21) (8 * a + j) 10000)) := by
    have := (FC.put (a := a) (j := j) (σ := σ) (v := s) (r := 20) (by simp)).trans (FC.put (a := a) (j := j) (v := 10000) (r := 21) (by simp))
    rw [sA_ne (show (21 : Nat) ≠ 20 by decide)] at this
    exact this
  obtain ⟨σ1, g1, g2, g3⟩ := M_must_no (x := 61) hT m0 hw
  have m2 : MR a n T k 1 (sA σ1 23 (upd (σ1.2.1 23) (8 * a + j) (σ1.1 47))) := g3.row (by decide) (by decide)
  have m3 : MR a n T k 1 (sA (sA σ1 23 (upd (σ1.2.1 23) (8 * a + j) (σ1.1 47))) 24 (upd ((sA σ1 23 (upd (σ1.2.1 23) (8 * a + j) (σ1.1 47))).2.1 24) (8 * a + j) (-1))) := m2.row (by decide) (by decide)
  have fr : FC a j σ (sA (sA σ1 23 (upd (σ1.2.1 23) (8 * a + j) (σ1.1 47))) 24 (upd ((sA σ1 23 (upd (σ1.2.1 23) (8 * a + j) (σ1.1 47))).2.1 24) (8 * a + j) (-1))) := ((f0.trans (FC.lk g2)).trans (FC.put (by simp))).trans (FC.put (by simp))
  have e18 : (sA (sA σ1 23 (upd (σ1.2.1 23) (8 * a + j) (σ1.1 47))) 24 (upd ((sA σ1 23 (upd (σ1.2.1 23) (8 * a + j) (σ1.1 47))).2.1 24) (8 * a + j) (-1))).2.1 18 a = nI j := by
    rw [sA_ne (by decide), sA_ne (by decide), g2.2, sA_ne (by decide), sA_ne (by decide)]; exact e
  refine ⟨_, ?_, fr.trans (FC.cnt (v := nI (j + 1))), m3.row (by decide) (by decide)⟩
  rw [clause_R ha hj e, g1, bind_pq, sums_w m2.2.2.2.2.1, bind_pq]
  unfold condM
  rw [if_neg (by rw [m3.2.2.2.2.1]; decide), J96_E ha (by omega) e18]
theorem eq_X {n k : Nat} {T : Nat → Int32} (hT : TpOK n T) {τ0 τ : XS} {h : Nat} {st cd : List Int32} (q : Qc τ0 h n T k st cd τ) : (bt n T k = 61 → ∃ τ', Tp_readAll τ 1000002 = some (1, τ') ∧ Qc τ0 h n T (k + 1) st cd τ') ∧ (bt n T k ≠ 61 → ∃ τ', Tp_readAll τ 1000002 = some (0, τ') ∧ Qc τ0 h n T k st cd τ') := by
  obtain ⟨τ', r, g1, g2, g3⟩ := all_X (q := 1000002) hT [61] 0 k 100000 (by decide +kernel) (by decide) (by decide) (by decide) (by decide) τ0 h st cd τ q
  have g1' : Tp_readAll τ 1000002 = some (r, τ') := g1
  have e : ml (bt n T) [61] k = if bt n T k = 61 then 1 else 0 := rfl
  constructor
  · intro c
    rw [if_pos c] at e
    rw [e] at g2 g3
    refine ⟨τ', ?_, g2⟩
    rw [g1', (g3.resolve_right fun g => by simp at g).2]
  · intro c
    rw [if_neg c] at e
    rw [e] at g2 g3
    refine ⟨τ', ?_, g2⟩
    rw [g1', (g3.resolve_left fun g => by simp at g).2]
theorem body_of {n : Nat} {T : Nat → Int32} (hT : TpOK n T) (k : Nat) (hk : k ≤ n) (h1 : 1 ≤ k) :
    (∃ k', k ≤ k' ∧ k' ≤ n ∧ (∀ a j s σ, j < 8 → MR a n T k 0 σ → σ.2.1 18 a = nI j → ∃ σ', M_readsClause σ (nI a) s = some ((), σ') ∧ FC a j σ σ' ∧ MR a n T k' 1 σ') ∧ ∀ τ0 h st cd τ j s, Qc τ0 h n T k st cd τ → cd.length ≤ k → j < 8 → ∃ τ', bodyX τ h (nI j) s = some (0, τ') ∧ XR n T k' τ' ∧ FW τ0 τ' h j) ∨
    (∃ cs ts k1 k1' k', k < k' ∧ k' ≤ n ∧ k1 ≤ n ∧ RGood n T (M_sums (M_oneR 200)) k1 k1' cs ∧ (∀ a j s σ, j < 8 → MR a n T k 0 σ → σ.2.1 18 a = nI j → ∃ σ', M_readsClause σ (nI a) s = some ((), σ') ∧ FC a j σ σ' ∧ MR a n T k' 0 σ' ∧ σ'.2.1 18 a = nI (j + 1) ∧ σ'.2.1 20 (8 * a + j) = s ∧ σ'.2.1 21 (8 * a + j) = 10000 ∧ σ'.2.1 23 (8 * a + j) = nI k1 ∧ ((ts = [] ∧ σ'.2.1 24 (8 * a + j) = -1) ∨ ∃ k2, k2 ≤ n ∧ σ'.2.1 24 (8 * a + j) = nI k2 ∧ RTests n T k2 k' ts)) ∧ ∀ τ0 h st cd τ j s, Qc τ0 h n T k st cd τ → cd.length ≤ k → j < 8 → tF τ h 2 = nI j → ∃ st' τ', bodyX τ h (nI j) s = some (1, τ') ∧ Qc τ' h n T k' st' (cd ++ (cs ++ ts)) τ' ∧ (cd ++ (cs ++ ts)).length ≤ k' ∧ FW τ0 τ' h j ∧ tF τ' h 2 = nI (j + 1) ∧ tA τ' h 3 j = s ∧ tA τ' h 4 j = nI cd.length ∧ tA τ' h 5 j = nI (cd.length + cs.length) ∧ tA τ' h 6 j = nI (cd.length + cs.length + ts.length)) := by
  have hn := hT.1
  by_cases b61 : bt n T k = 61
  · have kn : k < n := bt_lt b61 (by decide)
    -- the reference up to the sum
    have refA : ∀ a j s σ, j < 8 → MR a n T k 0 σ → σ.2.1 18 a = nI j → ∃ σ1, FC a j σ σ1 ∧ MR a n T (k + 1) 0 σ1 ∧ σ1.2.1 18 a = nI j ∧ σ1.2.1 20 (8 * a + j) = s ∧ σ1.2.1 21 (8 * a + j) = 10000 ∧ σ1.2.1 23 (8 * a + j) = nI (k + 1) ∧ M_readsClause σ (nI a) s = (M_sums (M_oneR 200) σ1).bind (pq fun _ r3s => condM (sA r3s 24 (upd (r3s.2.1 24) (8 * a + j) (-1))) a (8 * a + j)) := by
      intro a j s σ hj h e
      have m0 : MR a n T k 0 (sA (sA σ 20 (upd (σ.2.1 20) (8 * a + j) s)) 21 (upd (σ.2.1 21) (8 * a + j) 10000)) := (h.row (by decide) (by decide)).row (by decide) (by decide)
      have f0 : FC a j σ (sA (sA σ 20 (upd (σ.2.1 20) (8 * a + j) s)) 21 (upd (σ.2.1 21) (8 * a + j) 10000)) := by
        have := (FC.put (a := a) (j := j) (σ := σ) (v := s) (r := 20) (by simp)).trans (FC.put (a := a) (j := j) (v := 10000) (r := 21) (by simp))
        rw [sA_ne (show (21 : Nat) ≠ 20 by decide)] at this
        exact this
      obtain ⟨σ1, g1, g2, g3⟩ := M_must_ok hT m0 b61 (by decide)
      refine ⟨sA σ1 23 (upd (σ1.2.1 23) (8 * a + j) (σ1.1 47)), (f0.trans (FC.lk g2)).trans (FC.put (by simp)), g3.row (by decide) (by decide), ?_, ?_, ?_, ?_, ?_⟩
      · rw [sA_ne (by decide), g2.2, sA_ne (by decide), sA_ne (by decide)]; exact e
      · rw [sA_ne (by decide), g2.2, sA_ne (by decide), sA_get, upd_at]
      · rw [sA_ne (by decide), g2.2, sA_get, upd_at]
      · rw [sA_get, upd_at, g3.2.2.2.1]
      · rw [clause_R h.1 hj e, g1, bind_pq]
    -- the class up to the sum
    have clsA : ∀ τ0 h st cd τ (j : Nat) (s : Int32), Qc τ0 h n T k st cd τ → j < 8 → ∃ τ4, Qc τ4 h n T (k + 1) st cd τ4 ∧ FW τ0 τ4 h j ∧ tF τ4 h 2 = tF τ h 2 ∧ tA τ4 h 3 j = s ∧ tA τ4 h 4 j = nI cd.length ∧ bodyX τ h (nI j) s = (Tp_readSum τ4 (some h)).bind (pq fun r3 r3s => (if r3 = 0 then some (0, r3s) else if h < nA r3s then Tp_readClause_L75 100000 (xTA r3s h 5 (upd (tA r3s h 5) j (tF r3s h 9))) (some h) (nI j) 0 else none)) := by
      intro τ0 h st cd τ j s q hj
      obtain ⟨τ2, g1, g2⟩ := (eq_X hT q.base).1 b61
      have q3 := g2.row (r := 3) (f := upd (tA τ2 h 3) j s) (by decide)
      have q4 := q3.row (r := 4) (f := upd (tA (xTA τ2 h 3 (upd (tA τ2 h 3) j s)) h 4) j (tF (xTA τ2 h 3 (upd (tA τ2 h 3) j s)) h 9)) (by decide)
      refine ⟨_, q4, (((q.2.2.2.2.2.2).fw (j := j)).trans (g2.2.2.2.2.2.2.fw (j := j))).trans ((FW.put (by simp)).trans (FW.put (by simp))), ?_, ?_, ?_, ?_⟩
      · rw [TA_F, TA_F]; exact g2.2.2.2.2.2.2.2.2.2.2.2.2.2.1 2 (by decide)
      · rw [TA_An (by decide), TA_A, upd_at]
      · rw [TA_A, upd_at]; exact q3.2.2.2.2.1
      · rw [bodyX_E hj g1 g2.1, if_neg n10]
    rcases sum_X hT (k + 1) kn (by omega) with ⟨k', a1, a2, a3, a4⟩ | ⟨cs, k1', a1, a2, a3, a4⟩
    · refine Or.inl ⟨k', by omega, a2, fun a j s σ hj h e => ?_, fun τ0 h st cd τ j s q l hj => ?_⟩
      · obtain ⟨σ1, f1, f2, f3, -, -, -, f7⟩ := refA a j s σ hj h e
        obtain ⟨v, σ2, g1, g2, g3⟩ := a3 a σ1 f2
        have m3 : MR a n T k' 1 (sA σ2 24 (upd (σ2.2.1 24) (8 * a + j) (-1))) := g3.row (by decide) (by decide)
        have e18 : (sA σ2 24 (upd (σ2.2.1 24) (8 * a + j) (-1))).2.1 18 a = nI j := by rw [sA_ne (by decide), g2.2]; exact f3
        refine ⟨_, ?_, ((f1.trans (FC.lk g2)).trans (FC.put (r := 24) (v := -1) (by simp))).trans (FC.cnt (v := nI (j + 1))), m3.row (by decide) (by decide)⟩
        rw [f7, g1, bind_pq]
        unfold condM
        rw [if_neg (by rw [m3.2.2.2.2.1]; decide), J96_E h.1 (by omega) e18]
      · obtain ⟨τ4, q4, w4, -, -, -, e4⟩ := clsA τ0 h st cd τ j s q hj
        obtain ⟨τ5, g1, g2, g3⟩ := a4 τ4 h 0 st cd τ4 q4 (by omega)
        exact ⟨τ5, by rw [e4, g1, bind_pq, if_pos rfl], g2, w4.trans g3.fw⟩
    · rcases conds_of hT k1' a2 (by omega) with ⟨k', b1, b2, b3, b4⟩ | ⟨ts, k', b1, b2, b3, b4⟩
      · refine Or.inl ⟨k', by omega, b2, fun a j s σ hj h e => ?_, fun τ0 h st cd τ j s q l hj => ?_⟩
        · obtain ⟨σ1, f1, f2, f3, -, -, -, f7⟩ := refA a j s σ hj h e
          have ha := h.1
          obtain ⟨v, σ2, g1, g2, g3, -⟩ := a3 a σ1 f2
          have m3 : MR a n T k1' 0 (sA σ2 24 (upd (σ2.2.1 24) (8 * a + j) (-1))) := g3.row (by decide) (by decide)
          obtain ⟨σ3, u1, u2, u3⟩ := b3 a (8 * a + j) _ (by omega) m3
          have e18 : σ3.2.1 18 a = nI j := by rw [u2.2.1 18 (by decide), sA_ne (by decide), g2.2]; exact f3
          exact ⟨_, by rw [f7, g1, bind_pq, u1, J96_E ha (by omega) e18], (((f1.trans (FC.lk g2)).trans (FC.put (r := 24) (v := -1) (by simp))).trans (FC.f24 u2)).trans (FC.cnt (v := nI (j + 1))), u3.row (by decide) (by decide)⟩
        · obtain ⟨τ4, q4, w4, -, -, -, e4⟩ := clsA τ0 h st cd τ j s q hj
          obtain ⟨τ5, g1, g2, g3⟩ := a4 τ4 h 0 st cd τ4 q4 (by omega)
          have q6 := g2.row (r := 5) (f := upd (tA τ5 h 5) j (tF τ5 h 9)) (by decide)
          obtain ⟨τ7, u1, u2, u3⟩ := b4 _ h 0 _ _ _ (nI j) q6 (by omega)
          exact ⟨τ7, by rw [e4, g1, bind_pq, if_neg n10, if_pos g2.1, u1], u2, ((w4.trans g2.2.2.2.2.2.2.fw).trans (FW.put (by simp))).trans u3.fw⟩
      · refine Or.inr ⟨cs, ts, k + 1, k1', k', by omega, b2, kn, a3, fun a j s σ hj h e => ?_, fun τ0 h st cd τ j s q l hj e2 => ?_⟩
        · obtain ⟨σ1, f1, f2, f3, f4, f5, f6, f7⟩ := refA a j s σ hj h e
          have ha := h.1
          obtain ⟨v, σ2, g1, g2, g3, -⟩ := a3 a σ1 f2
          have m3 : MR a n T k1' 0 (sA σ2 24 (upd (σ2.2.1 24) (8 * a + j) (-1))) := g3.row (by decide) (by decide)
          obtain ⟨σ3, u1, u2, u3, u4⟩ := b3 a (8 * a + j) _ (by omega) m3 (by rw [sA_get, upd_at])
          have e18 : σ3.2.1 18 a = nI j := by rw [u2.2.1 18 (by decide), sA_ne (by decide), g2.2]; exact f3
          refine ⟨_, by rw [f7, g1, bind_pq, u1, J96_E ha (by omega) e18], (((f1.trans (FC.lk g2)).trans (FC.put (r := 24) (v := -1) (by simp))).trans (FC.f24 u2)).trans (FC.cnt (v := nI (j + 1))), u3.row (by decide) (by decide), ?_, ?_, ?_, ?_, ?_⟩
          · rw [sA_get, upd_at]
          · rw [sA_ne (by decide), u2.2.1 20 (by decide), sA_ne (by decide), g2.2]; exact f4
          · rw [sA_ne (by decide), u2.2.1 21 (by decide), sA_ne (by decide), g2.2]; exact f5
          · rw [sA_ne (by decide), u2.2.1 23 (by decide), sA_ne (by decide), g2.2]; exact f6
          · rw [sA_ne (show (24 : Nat) ≠ 18 by decide)]; exact u4
        · obtain ⟨τ4, q4, w4, x2, x3, x4, e4⟩ := clsA τ0 h st cd τ j s q hj
          obtain ⟨τ5, g1, g2, g3⟩ := a4 τ4 h 0 st cd τ4 q4 (by omega)
          have q6 := g2.row (r := 5) (f := upd (tA τ5 h 5) j (tF τ5 h 9)) (by decide)
          obtain ⟨st', τ7, u1, u2, u3⟩ := b4 _ h 0 _ _ _ (nI j) q6 (by omega)
          have l5 : tF τ5 h 9 = nI (cd.length + cs.length) := by rw [g2.2.2.2.2.1, List.length_append]
          have l7 : tF τ7 h 9 = nI (cd.length + cs.length + ts.length) := by rw [u2.2.2.2.2.1, List.length_append, List.length_append]
          have fr5 := g2.2.2.2.2.2.2
          have fr7 := u2.2.2.2.2.2.2
          have F2 : tF τ7 h 2 = nI j := by
            rw [fr7.2.2.2.2.2.2.2.1 2 (by decide), TA_F, fr5.2.2.2.2.2.2.2.1 2 (by decide), x2, e2]
          have q8 := u2.row (r := 6) (f := upd (tA τ7 h 6) j (tF τ7 h 9)) (by decide)
          have q9 := q8.fld (r := 2) (v := nI j + 1) (by decide)
          have hA7 : h < nA τ7 := u2.1
          have hA8 : h < nA (xTA τ7 h 6 (upd (tA τ7 h 6) j (tF τ7 h 9))) := u2.1
          refine ⟨st', xTI (xTA τ7 h 6 (upd (tA τ7 h 6) j (tF τ7 h 9))) h 2 (nI j + 1), ?_, by rw [← List.append_assoc cd]; exact q9, by rw [← List.append_assoc cd]; omega, ((((w4.trans fr5.fw).trans (FW.put (by simp))).trans fr7.fw).trans (FW.put (by simp))).trans FW.two, by rw [TI_F, nI_1], ?_, ?_, ?_, ?_⟩
          · rw [e4, g1, bind_pq, if_neg n10, if_pos g2.1, u1]
            unfold Tp_readClause_J170
            simp only [oA, if_pos hA7]
            rw [wr_nI (by omega) (by decide), cl_nI (by omega)]
            rw [if_pos hA8, if_pos hA8, TA_F, F2]
          · rw [TI_A, TA_An (by decide), fr7.2.2.2.2.2.2.2.2 3 (by decide), TA_An (by decide), fr5.2.2.2.2.2.2.2.2 3 (by decide), x3]
          · rw [TI_A, TA_An (by decide), fr7.2.2.2.2.2.2.2.2 4 (by decide), TA_An (by decide), fr5.2.2.2.2.2.2.2.2 4 (by decide), x4]
          · rw [TI_A, TA_An (by decide), fr7.2.2.2.2.2.2.2.2 5 (by decide), TA_A, upd_at, l5]
          · rw [TI_A, TA_A, upd_at, l7]
  · refine Or.inl ⟨k, Nat.le_refl _, hk, fun a j s σ hj h e => clause_w hT h (Or.inr ⟨rfl, b61⟩) hj e, fun τ0 h st cd τ j s q l hj => ?_⟩
    obtain ⟨τ2, g1, g2⟩ := (eq_X hT q).2 b61
    exact ⟨τ2, by rw [bodyX_E hj g1 g2.1, if_pos rfl], g2.2.1, g2.2.2.2.2.2.2.fw⟩
