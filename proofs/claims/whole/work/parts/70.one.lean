/-! one number, name or sum in brackets; then sums of any depth -/
theorem M_must_ok {a n k : Nat} {T : Nat → Int32} {σ : MS} {x : Int32} (hT : TpOK n T) (h : MR a n T k 0 σ) (hb : bt n T k = x) (hx : x ≠ -1) : ∃ σ', M_must σ x = some ((), σ') ∧ Lk σ σ' ∧ MR a n T (k + 1) 0 σ' := by
  have kn := bt_lt hb hx
  have h1 : MR a n T k 0 (sI σ 48 0) := h.err
  refine ⟨sI (sI σ 48 0) 47 ((sI σ 48 0).1 47 + 1), ?_, (Lk.i (by simp)).trans (Lk.i (by simp)), h1.go kn⟩
  unfold M_must M_must_J21 M_must_J41
  rw [if_pos h.2.2.2.2.1, h.byte hT, bind_so, if_pos hb, bz_0, if_pos h1.2.2.2.2.1]
theorem M_must_no {a n k : Nat} {T : Nat → Int32} {σ : MS} {w x : Int32} (hT : TpOK n T) (h : MR a n T k w σ) (hb : w = 1 ∨ (w = 0 ∧ bt n T k ≠ x)) : ∃ σ', M_must σ x = some ((), σ') ∧ Lk σ σ' ∧ MR a n T k 1 σ' := by
  have h1 : MR a n T k 1 (sI σ 48 1) := h.err
  have z : (sI σ 48 1).1 47 + 0 = nI k := by rw [h1.2.2.2.1]; exact nI_add k 0
  have go : M_must_J16 σ = some ((), sI (sI σ 48 1) 47 (nI k)) := by
    unfold M_must_J16 M_must_J21 M_must_J41
    rw [bz_1, if_neg (by rw [h1.2.2.2.2.1]; decide), z]
  refine ⟨sI (sI σ 48 1) 47 (nI k), ?_, (Lk.i (by simp)).trans (Lk.i (by simp)), ?_⟩
  · unfold M_must
    rcases hb with rfl | ⟨rfl, hb⟩
    · rw [if_neg (by rw [h.2.2.2.2.1]; decide)]; exact go
    · rw [if_pos h.2.2.2.2.1, h.byte hT, bind_so, if_neg hb]; exact go
  · obtain ⟨g1, g2, g3, g4, g5, g6, g7⟩ := h1
    exact ⟨g1, g2, (sI_ne (by decide)).trans g3, sI_get, (sI_ne (by decide)).trans g5, g6, g7⟩
theorem stop_ops {n k : Nat} {T : Nat → Int32} (h : stopB n T 1 k) : bt n T k ≠ 43 ∧ bt n T k ≠ 45 ∧ bt n T k ≠ 42 := by
  refine ⟨fun e => h ?_, fun e => h ?_, fun e => h ?_⟩ <;> rw [e] <;> unfold Ops strn <;> decide
theorem one_of {n m : Nat} {T : Nat → Int32} (hT : TpOK n T) (hO : ∀ k, k ≤ n → n - k < m → Spc n T 1 (M_sums (M_oneR m)) k) (k : Nat) (hk : k ≤ n) (hm : n - k < m + 1) : Spc n T 3 (M_oneR (m + 1)) k := by
  have hn := hT.1
  have stop3 : ∀ k, stopB n T 3 k := fun k g => g.2 (by rcases strn_v g.1 with e | e <;> rw [e] <;> decide)
  have e0 : ∀ σ : MS, M_oneR (m + 1) σ = M_one (M_sums (M_oneR m)) σ := fun σ => by rw [M_oneR]
  rcases digit_or hT k with ⟨c, c1, c2, c3, c4, c5, c6⟩ | ⟨c5, c6⟩
  · obtain ⟨v, k', g1, g2, g3, g4, g5⟩ := num_spec hT c1 c2 c3 c4
    refine Or.inr ⟨[nI v], k', g1, g2, stop3 _, fun a σ h => ?_, fun τ0 h e d st cd a4 τ r _ => ?_⟩
    · obtain ⟨σ', j1, j2, j3⟩ := g4 a σ h
      refine ⟨nI v, σ', ?_, j2, j3, RunsTo.num g3⟩
      rw [e0]; unfold M_one
      rw [if_pos h.2.2.2.2.1, c6 a 0 σ h, bind_so, if_neg n10, j1, bind_pq]
    · obtain ⟨q, r2, r3, r4⟩ := r
      obtain ⟨τ1, j1, j2⟩ := g5 τ0 h st cd τ q
      obtain ⟨τ2, l1, l2⟩ := j2.emit (by omega) (nI v)
      refine ⟨τ2, a4 + 1, [], [nI v], ?_, ⟨l2, by rw [List.length_append, List.length_singleton, List.nil_append]; omega, by omega, by omega⟩, rfl, fun _ g => by simp at g⟩
      have nb : ¬ bt n T k = 40 := by rw [c4]; exact fun g => by have := (nI_eq (b := 40) (by omega) (by decide)).mp g; omega
      rw [lp_step (by omega), q.2.1.next hT, bind_so, if_neg n10, if_neg nb]
      unfold Tp_readSum_J49 Tp_readOne
      rw [if_neg n10, q.2.1.next hT, bind_so, c5, bind_so, if_neg n10, j1, bind_pq]
      unfold oA
      simp only [if_pos j2.1]
      rw [l1, bind_pq, bind_pq, if_neg n10, lp_J]
  · by_cases b40 : bt n T k = 40
    · have kn : k < n := bt_lt b40 (by decide)
      have enter : ∀ τ0 h e d st cd a4 τ, Rdy τ0 h n T e k d st cd a4 τ → ∃ τ1, lp τ h d 1 a4 = lp τ1 h (d + 1) 1 (a4 + 1) ∧ Rdy τ0 h n T e (k + 1) (d + 1) (40 :: st) cd (a4 + 1) τ1 := by
        intro τ0 h e d st cd a4 τ ⟨q, r2, r3, r4⟩
        obtain ⟨τ1, l1, l2⟩ := q.hold kn (by omega) 40
        refine ⟨τ1, ?_, l2, by rw [List.length_cons]; omega, by omega, by omega⟩
        rw [lp_step (by omega), q.2.1.next hT, bind_so, if_neg n10, if_pos b40, b40, l1, bind_pq, nI_1, lp_J]
      have ent : ∀ a σ, MR a n T k 0 σ → M_oneR (m + 1) σ = (M_sums (M_oneR m) (sI σ 47 (σ.1 47 + 1))).bind (pq fun r5 r5s => ((M_must r5s 41).bind (pq fun _ r6s => (some (r5, r6s))))) := by
        intro a σ h
        rw [e0]; unfold M_one
        rw [if_pos h.2.2.2.2.1, c6 a 0 σ h, bind_so, if_pos rfl, h.byte hT, bind_so, if_pos b40]
      have pp40 : ∀ st, PP 1 (40 :: st) := fun st => Or.inr ⟨40, st, rfl, by decide⟩
      rcases hO (k + 1) (by omega) (by omega) with ⟨k', h1, h2, h3, h4⟩ | ⟨c, k', h1, h2, h3, h4, h5⟩
      · refine Or.inl ⟨k', by omega, h2, fun a σ h => ?_, fun τ0 h e d st cd a4 τ r _ => ?_⟩
        · obtain ⟨v1, σ1, j1, j2, j3⟩ := h3 a _ (h.go kn)
          obtain ⟨σ2, l1, l2, l3⟩ := M_must_no (x := 41) hT j3 (Or.inl rfl)
          exact ⟨v1, σ2, by rw [ent a σ h, j1, bind_pq, l1, bind_pq], ((Lk.i (by simp)).trans j2).trans l2, l3⟩
        · obtain ⟨τ1, e1, r1⟩ := enter τ0 h e d st cd a4 τ r
          rw [e1]
          exact h4 τ0 h e _ _ _ _ _ r1 (pp40 _)
      · by_cases b41 : bt n T k' = 41
        · have kn' : k' < n := bt_lt b41 (by decide)
          refine Or.inr ⟨c, k' + 1, by omega, kn', stop3 _, fun a σ h => ?_, fun τ0 h e d st cd a4 τ r _ => ?_⟩
          · obtain ⟨v1, σ1, j1, j2, j3, j4⟩ := h4 a _ (h.go kn)
            obtain ⟨σ2, l1, l2, l3⟩ := M_must_ok hT j3 b41 (by decide)
            exact ⟨v1, σ2, by rw [ent a σ h, j1, bind_pq, l1, bind_pq], ((Lk.i (by simp)).trans j2).trans l2, l3, j4⟩
          · obtain ⟨τ1, e1, r1⟩ := enter τ0 h e d st cd a4 τ r
            obtain ⟨τ2, a42, pd, c0, e2, ⟨q2, s2, s3, s4⟩, e3, o2⟩ := h5 τ0 h e _ _ _ _ _ r1 (pp40 _)
            have l2 : (pd ++ 40 :: st).length = pd.length + st.length + 1 := by rw [List.length_append, List.length_cons]; omega
            obtain ⟨τ3, l1, q3⟩ := rel_of hT h2 q2 s2 (pp40 _) o2
            have l3 : (cd ++ c0 ++ pd.map opc).length = (cd ++ c0).length + pd.length := by rw [List.length_append (as := cd ++ c0), List.length_map]
            have q4 := q3.pop (by omega)
            have q5 := q4.go kn'
            rw [List.append_assoc cd, e3] at q5 l3
            refine ⟨_, a42 + 1, [], c, ?_, ⟨q5, by rw [List.nil_append]; omega, by omega, by omega⟩, by simp, fun _ g => by simp at g⟩
            rw [e1, e2, lp_step (by omega), q2.2.1.next hT, bind_so, if_pos rfl]
            unfold Tp_readSum_J49
            rw [if_pos rfl, if_pos b41, if_neg (fun g => by have := (nI_leI (b := 0) (by omega) (by decide)).mp g; omega), l1, bind_pq, if_neg (by
              rw [q3.2.2.1, List.length_cons]
              exact fun g => by have := (nI_leI (b := 0) (by omega) (by decide)).mp g; omega)]
            unfold Tp_readSum_J102
            rw [show nI (d + 1) + (-1) = nI d by rw [show nI (d + 1) + (-1) = nI (d + 1) - nI 1 from (Int32.sub_eq_add_neg _ _).symm, nI_sub (by omega)]; rfl, lp_J]
        · obtain ⟨s43, s45, s42⟩ := stop_ops h3
          refine Or.inl ⟨k', by omega, h2, fun a σ h => ?_, fun τ0 h e d st cd a4 τ r _ => ?_⟩
          · obtain ⟨v1, σ1, j1, j2, j3, j4⟩ := h4 a _ (h.go kn)
            obtain ⟨σ2, l1, l2, l3⟩ := M_must_no (x := 41) hT j3 (Or.inr ⟨rfl, b41⟩)
            exact ⟨v1, σ2, by rw [ent a σ h, j1, bind_pq, l1, bind_pq], ((Lk.i (by simp)).trans j2).trans l2, l3⟩
          · obtain ⟨τ1, e1, r1⟩ := enter τ0 h e d st cd a4 τ r
            obtain ⟨τ2, a42, pd, c0, e2, ⟨q2, s2, s3, s4⟩, e3, o2⟩ := h5 τ0 h e _ _ _ _ _ r1 (pp40 _)
            obtain ⟨τ3, l1, q3⟩ := rel_of hT h2 q2 s2 (pp40 _) o2
            refine ⟨τ3, ?_, q3.2.1, q3.2.2.2.2.2.2⟩
            rw [e1, e2, lp_step (by omega), q2.2.1.next hT, bind_so, if_pos rfl, J49_X (Or.inl b41)]
            unfold Tp_readSum_J118
            rw [if_neg s43, if_neg s45, if_neg s42, l1, bind_pq, if_neg (fun g => by have := (nI_eq (b := 0) (by omega) (by decide)).mp g; omega)]
    · have refw : ∀ a σ, MR a n T k 0 σ → M_oneR (m + 1) σ = (M_oneOf σ 10 14).bind (pq fun r3 r3s => (rd (r3s.2.1 49) 5 (r3 - 10) fun v4 => some (v4, r3s))) := by
        intro a σ h
        rw [e0]; unfold M_one
        rw [if_pos h.2.2.2.2.1, c6 a 0 σ h, bind_so, if_pos rfl, h.byte hT, bind_so, if_neg b40]
      -- what the word is, by any class that stands here
      have word : ∃ b r, InvW (bt n T) k 10 5 b r ∧ ∀ τ : XS, XR n T k τ → Tp_readWord τ 1000003 = some (r, xI τ 702 (nI (k + b))) := by
        let τz : XS := (fun j => if j = 702 then nI k else nI n, fun _ => T, fun _ => 0, 0, fun _ => none, none, fun _ => (fun _ => 0, fun _ _ => 0))
        have hz : XR n T k τz := ⟨hk, rfl, rfl, rfl⟩
        obtain ⟨b, r, z1, z2⟩ := names_X hT hz
        refine ⟨b, r, z2, fun τ hx => ?_⟩
        obtain ⟨b', r', y1, y2⟩ := names_X hT hx
        obtain ⟨u1, u2⟩ := InvW.uniq (by decide) y2 z2
        rw [y1, u1, u2]
      obtain ⟨b, r, w1, w2⟩ := word
      have ref := fun a σ (h : MR a n T k 0 σ) => oneOf_M (lo := 10) (hi := 14) hT h (by decide) (by decide) w1
      have kb : k + b ≤ n := w1.le hk
      rcases w1.2.2 with ⟨rfl, w3⟩ | ⟨j, j1, rfl, j2, j3⟩
      · refine Or.inl ⟨k + b, by omega, kb, fun a σ h => ?_, fun τ0 h e d st cd a4 τ r _ => ?_⟩
        · rcases ref a σ h with ⟨-, σ', y1, y2, y3⟩ | ⟨i, i1, i2, y, -⟩
          · have y1' : M_oneOf σ 10 14 = some (nI 10, σ') := y1
            exact ⟨_, σ', by rw [refw a σ h, y1', bind_pq, show nI 10 - 10 = nI 0 by decide, rd_nI (by decide) (by decide)], y2, y3⟩
          · exact absurd y.symm (nI_ne_m1 (by omega))
        · obtain ⟨q, r2, r3, r4⟩ := r
          refine ⟨xI τ 702 (nI (k + b)), ?_, (q.at kb).2.1, (q.at kb).2.2.2.2.2.2⟩
          rw [lp_step (by omega), q.2.1.next hT, bind_so, if_neg n10, if_neg b40]
          unfold Tp_readSum_J49 Tp_readOne
          rw [if_neg n10, q.2.1.next hT, bind_so, c5, bind_so, if_pos rfl, w2 τ q.2.1, bind_pq, if_neg (by decide), bind_pq, if_pos rfl]
      · have jp := wd_pos (10 + j) (by omega)
        refine Or.inr ⟨[(-1) - nI j], k + b, by omega, kb, stop3 _, fun a σ h => ?_, fun τ0 h e d st cd a4 τ r _ => ?_⟩
        · rcases ref a σ h with ⟨y, -⟩ | ⟨i, i1, i2, y, -, σ', y1, y2, y3⟩
          · exact absurd y (nI_ne_m1 (by omega))
          · have ij : j = i - 10 := (nI_eq (by omega) (by omega)).mp y
            have y1' : M_oneOf σ 10 14 = some (nI i, σ') := y1
            refine ⟨σ.2.1 49 j, σ', ?_, y2, y3, RunsTo.name (by omega)⟩
            rw [refw a σ h, y1', bind_pq, show nI i - 10 = nI (i - 10) by rw [show (10 : Int32) = nI 10 from rfl, nI_sub i1], rd_nI (by omega) (by decide), y2.2, ij]
        · obtain ⟨q, r2, r3, r4⟩ := r
          have q1 := q.at kb
          obtain ⟨τ2, l1, l2⟩ := q1.emit (by omega) ((-1) - nI j)
          refine ⟨τ2, a4 + 1, [], [(-1) - nI j], ?_, ⟨l2, by rw [List.length_append, List.length_singleton, List.nil_append]; omega, by omega, by omega⟩, rfl, fun _ g => by simp at g⟩
          rw [lp_step (by omega), q.2.1.next hT, bind_so, if_neg n10, if_neg b40]
          unfold Tp_readSum_J49 Tp_readOne
          rw [if_neg n10, q.2.1.next hT, bind_so, c5, bind_so, if_pos rfl, w2 τ q.2.1, bind_pq, if_pos (nI_le0 (by omega))]
          unfold oA
          simp only [if_pos q1.1]
          rw [l1, bind_pq, bind_pq, if_neg n10, lp_J]
theorem lvl_term {n : Nat} {T : Nat → Int32} (hT : TpOK n T) (o : MS → Option (Int32 × MS)) : Lvl n T 2 o (fun fu σ v => M_term_L5_r o fu σ v) := by
  refine ⟨fun fu σ v h => ?_, fun fu a k σ v h g => ?_, fun fu a k σ v h g => ?_⟩
  · show M_term_L5_r o (fu + 1) σ v = _
    rw [M_term_L5_r, if_neg (by rw [h]; decide)]
  · show M_term_L5_r o (fu + 1) σ v = _
    rw [M_term_L5_r, if_pos h.2.2.2.2.1, h.byte hT, bind_so, if_neg (fun e => g ⟨Or.inr (Or.inr e), by rw [e]; rfl⟩)]
  · have e : bt n T k = 42 := by
      rcases g.1 with e | e | e
      · have := g.2; rw [e] at this; exact absurd this (by decide)
      · have := g.2; rw [e] at this; exact absurd this (by decide)
      · exact e
    show M_term_L5_r o (fu + 1) σ v = _
    rw [M_term_L5_r, if_pos h.2.2.2.2.1, h.byte hT, bind_so, if_pos e]
    simp only [e]
    rfl
theorem lvl_sums {n : Nat} {T : Nat → Int32} (hT : TpOK n T) (o : MS → Option (Int32 × MS)) : Lvl n T 1 (M_term o) (fun fu σ v => M_sums_L5_r o fu σ v) := by
  refine ⟨fun fu σ v h => ?_, fun fu a k σ v h g => ?_, fun fu a k σ v h g => ?_⟩
  · show M_sums_L5_r o (fu + 1) σ v = _
    rw [M_sums_L5_r, if_neg (by rw [h]; decide)]
  · show M_sums_L5_r o (fu + 1) σ v = _
    rw [M_sums_L5_r, if_pos h.2.2.2.2.1, h.byte hT, bind_so, if_neg (fun e => g ⟨Or.inl e, by rw [e]; rfl⟩), bind_so, if_neg (fun e => g ⟨Or.inr (Or.inl e), by rw [e]; rfl⟩)]
  · show M_sums_L5_r o (fu + 1) σ v = _
    rcases g.1 with e | e | e
    · rw [M_sums_L5_r, if_pos h.2.2.2.2.1, h.byte hT, bind_so, if_pos e]
      unfold M_sums_J30 M_sums_J44 M_sums_J73
      rw [h.byte hT, bind_so, if_pos e]
      simp only [e]
      rfl
    · rw [M_sums_L5_r, if_pos h.2.2.2.2.1, h.byte hT, bind_so, if_neg (by rw [e]; decide), bind_so, if_pos e]
      unfold M_sums_J30 M_sums_J44 M_sums_J73
      rw [h.byte hT, bind_so, if_neg (by rw [e]; decide)]
      simp only [e]
      rfl
    · have := g.2; rw [e] at this; exact absurd this (by decide)
theorem sums_any {n : Nat} {T : Nat → Int32} (hT : TpOK n T) : ∀ (m k : Nat), k ≤ n → n - k < m → Spc n T 1 (M_sums (M_oneR m)) k := by
  intro m
  induction m with
  | zero => intro k _ h; omega
  | succ m ih =>
    intro k hk hm
    have o3 : ∀ k, k ≤ n → n - k < m + 1 → Spc n T (2 + 1) (M_oneR (m + 1)) k := fun k a b => one_of hT ih k a b
    have o2 : ∀ k, k ≤ n → n - k < m + 1 → Spc n T (1 + 1) (M_term (M_oneR (m + 1))) k := fun k a b => level hT (Or.inr rfl) (lvl_term hT (M_oneR (m + 1))) o3 k a b
    exact level hT (Or.inl rfl) (lvl_sums hT (M_oneR (m + 1))) o2 k hk hm
