/-! sums, fixed words and tests, on both sides -/
theorem Qc.zero {τ0 τ : XS} {h n k : Nat} {T : Nat → Int32} {st cd : List Int32} (q : Qc τ0 h n T k st cd τ) : Qc τ0 h n T k [] cd (xI τ 704 0) := by
  obtain ⟨h1, ⟨h2, h3, h4, h5⟩, h6, h7, h8, h9, h10⟩ := q
  exact ⟨h1, ⟨h2, (xI_ne (by decide)).trans h3, (xI_ne (by decide)).trans h4, h5⟩, xI_get, trivial, h8, h9, h10.trans (Fr.i (Or.inr rfl))⟩
theorem sum_X {n : Nat} {T : Nat → Int32} (hT : TpOK n T) (k : Nat) (hk : k ≤ n) (h1 : 1 ≤ k) :
    (∃ k', k ≤ k' ∧ k' ≤ n ∧ RBad n T (M_sums (M_oneR 200)) k k' ∧ ∀ τ0 h e st cd τ, Qc τ0 h n T k st cd τ → cd.length + e ≤ k → ∃ τ', Tp_readSum τ (some h) = some (0, τ') ∧ XR n T k' τ' ∧ Fr τ0 τ' h) ∨
    (∃ c k', k < k' ∧ k' ≤ n ∧ RGood n T (M_sums (M_oneR 200)) k k' c ∧ ∀ τ0 h e st cd τ, Qc τ0 h n T k st cd τ → cd.length + e ≤ k → ∃ τ', Tp_readSum τ (some h) = some (1, τ') ∧ Qc τ0 h n T k' [] (cd ++ c) τ' ∧ (cd ++ c).length + e ≤ k') := by
  have hn := hT.1
  have start : ∀ τ0 h e st cd τ, Qc τ0 h n T k st cd τ → cd.length + e ≤ k → Rdy τ0 h n T e k 0 [] cd 0 (xI τ 704 0) := fun τ0 h e st cd τ q l => ⟨q.zero, by simp; omega, Nat.zero_le _, Nat.zero_le _⟩
  rcases sums_any hT 200 k hk (by omega) with ⟨k', a1, a2, a3, a4⟩ | ⟨c, k', a1, a2, a3, a4, a5⟩
  · exact Or.inl ⟨k', a1, a2, a3, fun τ0 h e st cd τ q l => a4 τ0 h e 0 [] cd 0 _ (start τ0 h e st cd τ q l) (Or.inl rfl)⟩
  · refine Or.inr ⟨c, k', a1, a2, a4, fun τ0 h e st cd τ q l => ?_⟩
    obtain ⟨τ2, a42, pd, c0, e2, ⟨q2, s2, s3, s4⟩, e3, o2⟩ := a5 τ0 h e 0 [] cd 0 _ (start τ0 h e st cd τ q l) (Or.inl rfl)
    obtain ⟨τ3, l1, q3⟩ := rel_of hT a2 q2 s2 (Or.inl rfl) o2
    obtain ⟨s43, s45, s42⟩ := stop_ops a3
    have l3 : (cd ++ c0 ++ pd.map opc).length = (cd ++ c0).length + pd.length := by rw [List.length_append (as := cd ++ c0), List.length_map]
    have l4 : (pd ++ ([] : List Int32)).length = pd.length := by rw [List.append_nil]
    rw [List.append_assoc cd, e3] at q3 l3
    refine ⟨τ3, ?_, q3, by omega⟩
    show lp (xI τ 704 0) h 0 1 0 = _
    rw [e2, lp_step (by omega), q2.2.1.next hT, bind_so, if_pos rfl, J49_X (Or.inr rfl)]
    unfold Tp_readSum_J118
    rw [if_neg s43, if_neg s45, if_neg s42, l1, bind_pq]
    rfl
theorem sums_w {σ : MS} (h : σ.1 48 = 1) : M_sums (M_oneR 200) σ = some (0, σ) := by
  have e1 : ¬ σ.1 48 = 0 := by rw [h]; decide
  have eo : M_oneR 200 σ = some (0, σ) := by
    rw [M_oneR]; unfold M_one; rw [if_neg e1]
  obtain ⟨f, hf, -⟩ := fuel (show 0 < 100000 by decide)
  unfold M_sums M_term M_sums_L5 M_term_L5
  rw [eo, bind_pq, hf, M_term_L5_r, if_neg e1, bind_pq, M_sums_L5_r, if_neg e1]
/-- a fixed word, letter by letter -/
theorem all_X {n q : Nat} {T : Nat → Int32} (hT : TpOK n T) : ∀ (w : List Int32) (i k fu : Nat), (∀ j, j < w.length → strC q (nI (i + j)) = some (w.getD j 0)) → strL q = some (nI (i + w.length)) → w.length < fu → i + w.length < 100 → (∀ c, c ∈ w → c ≠ -1) → ∀ τ0 h st cd τ, Qc τ0 h n T k st cd τ → ∃ τ' r, Tp_readAll_L2_r fu τ q (nI i) = some (r, τ') ∧ Qc τ0 h n T (k + ml (bt n T) w k) st cd τ' ∧ ((ml (bt n T) w k = w.length ∧ r = 1) ∨ (ml (bt n T) w k < w.length ∧ r = 0)) := by
  intro w
  induction w with
  | nil =>
    intro i k fu hC hL hf hi hm τ0 h st cd τ qq
    obtain ⟨f, rfl, -⟩ := fuel hf
    exact ⟨τ, 1, by rw [Tp_readAll_L2_r, hL, bind_so, if_pos (show nI (i + ([] : List Int32).length) ≤ nI i from Int32.le_refl _)], qq, Or.inl ⟨rfl, rfl⟩⟩
  | cons c r ih =>
    intro i k fu hC hL hf hi hm τ0 h st cd τ qq
    obtain ⟨f, rfl, hf2⟩ := fuel hf
    simp only [List.length_cons] at hf2 hi hL ⊢
    have e0 := hC 0 (by simp)
    rw [Nat.add_zero, show (c :: r).getD 0 0 = c from rfl] at e0
    unfold ml
    rw [Tp_readAll_L2_r, hL, bind_so, if_neg (nI_ge (by omega) (by omega)), qq.2.1.next hT, bind_so, e0, bind_so]
    by_cases b : bt n T k = c
    · have kn : k < n := bt_lt b (hm c (by simp))
      obtain ⟨τ', x, g1, g2, g3⟩ := ih (i + 1) (k + 1) f (fun j hj => by have := hC (j + 1) (by simp; omega); rw [List.getD_cons_succ, show i + (j + 1) = i + 1 + j by omega] at this; exact this) (by rw [hL]; congr 2; omega) (by omega) (by omega) (fun x hx => hm x (by simp [hx])) τ0 h st cd _ (qq.go kn)
      rw [if_pos b, if_pos b, nI_1]
      refine ⟨τ', x, g1, by rw [show k + (ml (bt n T) r (k + 1) + 1) = k + 1 + ml (bt n T) r (k + 1) by omega]; exact g2, ?_⟩
      rcases g3 with ⟨u1, u2⟩ | ⟨u1, u2⟩
      · exact Or.inl ⟨by omega, u2⟩
      · exact Or.inr ⟨by omega, u2⟩
    · rw [if_neg b, if_neg b]
      exact ⟨τ, 0, rfl, qq, Or.inr ⟨by omega, rfl⟩⟩
theorem all_Mw {a n k q L : Nat} {T : Nat → Int32} (hT : TpOK n T) (hL : strL q = some (nI L)) (hL5 : L < 100) (hC : ∀ j, j < L → ∃ c, strC q (nI j) = some c) : ∀ (d i fu : Nat) (σ : MS), i + d = L → d < fu → MR a n T k 1 σ → ∃ σ', M_musts_L2_r fu σ q (nI i) = some ((), σ') ∧ Lk σ σ' ∧ MR a n T k 1 σ' := by
  intro d
  induction d with
  | zero =>
    intro i fu σ hi hf h
    obtain ⟨f, rfl, -⟩ := fuel hf
    exact ⟨σ, by rw [M_musts_L2_r, hL, bind_so, if_pos (by rw [show i = L by omega]; exact Int32.le_refl _)], Lk.rfl, h⟩
  | succ d ih =>
    intro i fu σ hi hf h
    obtain ⟨f, rfl, hf2⟩ := fuel hf
    obtain ⟨c, hc⟩ := hC i (by omega)
    obtain ⟨σ1, g1, g2, g3⟩ := M_must_no (x := c) hT h (Or.inl rfl)
    obtain ⟨σ2, u1, u2, u3⟩ := ih (i + 1) f σ1 (by omega) (by omega) g3
    exact ⟨σ2, by rw [M_musts_L2_r, hL, bind_so, if_neg (nI_ge (by omega) (by omega)), hc, bind_so, g1, bind_pq, nI_1, u1], g2.trans u2, u3⟩
theorem all_M {a n q : Nat} {T : Nat → Int32} (hT : TpOK n T) : ∀ (w : List Int32) (i k fu : Nat), (∀ j, j < i + w.length → ∃ c, strC q (nI j) = some c) → (∀ j, j < w.length → strC q (nI (i + j)) = some (w.getD j 0)) → strL q = some (nI (i + w.length)) → w.length < fu → i + w.length < 100 → (∀ c, c ∈ w → c ≠ -1) → ∀ σ, MR a n T k 0 σ → ∃ σ', M_musts_L2_r fu σ q (nI i) = some ((), σ') ∧ Lk σ σ' ∧ ((ml (bt n T) w k = w.length ∧ MR a n T (k + ml (bt n T) w k) 0 σ') ∨ (ml (bt n T) w k < w.length ∧ MR a n T (k + ml (bt n T) w k) 1 σ')) := by
  intro w
  induction w with
  | nil =>
    intro i k fu hA hC hL hf hi hm σ h
    obtain ⟨f, rfl, -⟩ := fuel hf
    exact ⟨σ, by rw [M_musts_L2_r, hL, bind_so, if_pos (show nI (i + ([] : List Int32).length) ≤ nI i from Int32.le_refl _)], Lk.rfl, Or.inl ⟨rfl, h⟩⟩
  | cons c r ih =>
    intro i k fu hA hC hL hf hi hm σ h
    obtain ⟨f, rfl, hf2⟩ := fuel hf
    simp only [List.length_cons] at hf2 hi hL hA ⊢
    have e0 := hC 0 (by simp)
    rw [Nat.add_zero, show (c :: r).getD 0 0 = c from rfl] at e0
    unfold ml
    rw [M_musts_L2_r, hL, bind_so, if_neg (nI_ge (by omega) (by omega)), e0, bind_so]
    by_cases b : bt n T k = c
    · obtain ⟨σ1, j1, j2, j3⟩ := M_must_ok hT h b (hm c (by simp))
      obtain ⟨σ', g1, g2, g3⟩ := ih (i + 1) (k + 1) f (fun j hj => hA j (by omega)) (fun j hj => by have := hC (j + 1) (by simp; omega); rw [List.getD_cons_succ, show i + (j + 1) = i + 1 + j by omega] at this; exact this) (by rw [hL]; congr 2; omega) (by omega) (by omega) (fun x hx => hm x (by simp [hx])) σ1 j3
      rw [j1, bind_pq, nI_1, if_pos b, show k + (ml (bt n T) r (k + 1) + 1) = k + 1 + ml (bt n T) r (k + 1) by omega]
      refine ⟨σ', g1, j2.trans g2, ?_⟩
      rcases g3 with ⟨u1, u2⟩ | ⟨u1, u2⟩
      · exact Or.inl ⟨by omega, u2⟩
      · exact Or.inr ⟨by omega, u2⟩
    · obtain ⟨σ1, j1, j2, j3⟩ := M_must_no hT h (Or.inr ⟨rfl, b⟩)
      obtain ⟨σ', g1, g2, g3⟩ := all_Mw (L := i + (r.length + 1)) hT hL (by omega) hA r.length (i + 1) f σ1 (by omega) (by omega) j3
      rw [j1, bind_pq, nI_1, if_neg b]
      exact ⟨σ', g1, j2.trans g2, Or.inr ⟨by omega, g3⟩⟩
/-- a test -/
def cmpv (x v w : Int32) : Int32 := if x = 60 then (if w ≤ v then 0 else 1) else if x = 61 then (if v = w then 1 else 0) else (if v ≤ w then 0 else 1)
theorem cmpv01 {x v w : Int32} : cmpv x v w = 0 ∨ cmpv x v w = 1 := by
  unfold cmpv
  split
  · split
    · exact Or.inl rfl
    · exact Or.inr rfl
  · split
    · split
      · exact Or.inr rfl
      · exact Or.inl rfl
    · split
      · exact Or.inl rfl
      · exact Or.inr rfl
def ccd (x : Int32) : Int32 := if x = 60 then -14 else if x = 61 then -15 else if x = 62 then -16 else -1
theorem ccd_X {τ : XS} {x : Int32} : Tp_compareCode τ x = some (ccd x) := by
  unfold Tp_compareCode ccd
  split
  · rfl
  · split
    · rfl
    · split <;> rfl
theorem J61_eq {σ : MS} {v x a b : Int32} : M_test_J61 σ v x a b = (M_sums (M_oneR 200) (sI σ 47 (b + a))).bind (pq fun r3 r3s => some (cmpv x v r3, r3s)) := by
  unfold M_test_J61 cmpv
  congr 1
  funext p
  obtain ⟨r, s⟩ := p
  show (if x = 60 then _ else _) = some (_, _)
  by_cases c1 : x = 60
  · rw [if_pos c1, if_pos c1]; by_cases c2 : r ≤ v
    · rw [if_pos c2, if_pos c2]
    · rw [if_neg c2, if_neg c2]
  · rw [if_neg c1, if_neg c1]
    by_cases c3 : x = 61
    · rw [if_pos c3, if_pos c3]; by_cases c2 : v = r
      · rw [if_pos c2, if_pos c2]
      · rw [if_neg c2, if_neg c2]
    · rw [if_neg c3, if_neg c3]; by_cases c2 : v ≤ r
      · rw [if_pos c2, if_pos c2]
      · rw [if_neg c2, if_neg c2]
/-- a test goes wrong where it stands -/
theorem J36_w {a n k : Nat} {T : Nat → Int32} {w v x : Int32} {σ : MS} (h : MR a n T k w σ) : ∃ b σ', M_test_J36 σ v x = some (b, σ') ∧ Lk σ σ' ∧ MR a n T k 1 σ' ∧ (b = 0 ∨ b = 1) := by
  have h1 : MR a n T k 1 (sI σ 48 1) := h.err
  have e1 := h1.2.2.2.2.1
  refine ⟨_, sI (sI σ 48 1) 47 (nI k), ?_, (Lk.i (by simp)).trans (Lk.i (by simp)), ?_, cmpv01 (x := x) (v := v) (w := 0)⟩
  · unfold M_test_J36 M_test_J41
    rw [bz_1, if_neg (by rw [e1]; decide), J61_eq, show (sI σ 48 1).1 47 + 0 = nI k by rw [h1.2.2.2.1]; exact nI_add k 0, sums_w (by rw [sI_ne (by decide)]; exact e1), bind_pq]
  · obtain ⟨g1, g2, g3, g4, g5, g6, g7⟩ := h1
    exact ⟨g1, g2, (sI_ne (by decide)).trans g3, sI_get, (sI_ne (by decide)).trans g5, g6, g7⟩
theorem test_w {a n k : Nat} {T : Nat → Int32} {σ : MS} (hT : TpOK n T) (h : MR a n T k 1 σ) : ∃ b σ', M_test σ = some (b, σ') ∧ Lk σ σ' ∧ MR a n T k 1 σ' ∧ (b = 0 ∨ b = 1) := by
  obtain ⟨b, σ', g1, g2, g3, g4⟩ := J36_w (v := 0) (x := bt n T k) h
  refine ⟨b, σ', ?_, g2, g3, g4⟩
  unfold M_test
  rw [sums_w h.2.2.2.2.1, bind_pq, h.byte hT, bind_so, if_neg (by rw [h.2.2.2.2.1]; decide), g1]
def testX (kk : XS → Option Nat → Int32 → Int32 → Option (Int32 × XS)) (τ : XS) (h : Nat) (a2 a4 : Int32) : Option (Int32 × XS) := (Tp_readSum τ (some h)).bind (pq fun r6 r6s => (if r6 = 0 then some (0, r6s) else (Tp_next r6s).bind fun r7 => ((Tp_compareCode r6s r7).bind fun r8 => (if r8 = (-1) then some (0, r6s) else (Tp_readSum (xI r6s 702 ((r6s.1 702) + 1)) (some h)).bind (pq fun r9 r9s => (if r9 = 0 then some (0, r9s) else oA (nA r9s) (some h) (fun a_11 => (Ac_emit r9s a_11 r8).bind (pq fun _ r10s => (kk r10s (some h) a2 (a4 + 1))))))))))
def is3 (x : Int32) : Prop := x = 60 ∨ x = 61 ∨ x = 62
theorem test_of {n : Nat} {T : Nat → Int32} (hT : TpOK n T) (k : Nat) (hk : k ≤ n) (h1 : 1 ≤ k) :
    (∃ k', k ≤ k' ∧ k' ≤ n ∧ (∀ a σ, MR a n T k 0 σ → ∃ b σ', M_test σ = some (b, σ') ∧ Lk σ σ' ∧ MR a n T k' 1 σ' ∧ (b = 0 ∨ b = 1)) ∧ ∀ kk τ0 h e st cd τ j a4, Qc τ0 h n T k st cd τ → cd.length + e ≤ k → ∃ τ', testX kk τ h j a4 = some (0, τ') ∧ XR n T k' τ' ∧ Fr τ0 τ' h) ∨
    (∃ c1 c2 x k', k < k' ∧ k' ≤ n ∧ is3 x ∧ (∀ a σ, MR a n T k 0 σ → ∃ v w σ', M_test σ = some (cmpv x v w, σ') ∧ Lk σ σ' ∧ MR a n T k' 0 σ' ∧ RunsTo (σ.2.1 49) c1 v ∧ RunsTo (σ.2.1 49) c2 w) ∧ ∀ kk τ0 h e st cd τ j a4, Qc τ0 h n T k st cd τ → cd.length + e ≤ k → ∃ τ', testX kk τ h j a4 = kk τ' (some h) j (a4 + 1) ∧ Qc τ0 h n T k' [] (cd ++ (c1 ++ c2 ++ [ccd x])) τ' ∧ (cd ++ (c1 ++ c2 ++ [ccd x])).length + e ≤ k') := by
  have hn := hT.1
  rcases sum_X hT k hk h1 with ⟨k', a1, a2, a3, a4⟩ | ⟨c1, k1, a1, a2, a3, a4⟩
  · refine Or.inl ⟨k', a1, a2, fun a σ h => ?_, fun kk τ0 h e st cd τ j a4' q l => ?_⟩
    · obtain ⟨v, σ1, j1, j2, j3⟩ := a3 a σ h
      obtain ⟨b, σ2, l1, l2, l3, l4⟩ := J36_w (v := v) (x := bt n T k') j3
      refine ⟨b, σ2, ?_, j2.trans l2, l3, l4⟩
      unfold M_test
      rw [j1, bind_pq, j3.byte hT, bind_so, if_neg (by rw [j3.2.2.2.2.1]; decide), l1]
    · obtain ⟨τ', j1, j2, j3⟩ := a4 τ0 h e st cd τ q l
      exact ⟨τ', by unfold testX; rw [j1, bind_pq, if_pos rfl], j2, j3⟩
  · by_cases c : is3 (bt n T k1)
    · have kn : k1 < n := bt_lt (c := bt n T k1) rfl (by rcases c with e | e | e <;> rw [e] <;> decide)
      have refA : ∀ a σ, MR a n T k 0 σ → ∃ v σ1, Lk σ σ1 ∧ MR a n T (k1 + 1) 0 σ1 ∧ RunsTo (σ.2.1 49) c1 v ∧ M_test σ = (M_sums (M_oneR 200) σ1).bind (pq fun r3 r3s => some (cmpv (bt n T k1) v r3, r3s)) := by
        intro a σ h
        obtain ⟨v, σ1, j1, j2, j3, j4⟩ := a3 a σ h
        have h1 : MR a n T k1 0 (sI σ1 48 0) := j3.err
        have h2 := h1.go kn
        refine ⟨v, _, (j2.trans (Lk.i (by simp))).trans (Lk.i (by simp)), h2, j4, ?_⟩
        have go : M_test_J40 σ1 v (bt n T k1) = (M_sums (M_oneR 200) (sI (sI σ1 48 0) 47 ((sI σ1 48 0).1 47 + 1))).bind (pq fun r3 r3s => some (cmpv (bt n T k1) v r3, r3s)) := by
          unfold M_test_J40 M_test_J41
          rw [bz_0, if_pos h1.2.2.2.2.1, J61_eq]
        unfold M_test
        rw [j1, bind_pq, j3.byte hT, bind_so, if_pos j3.2.2.2.2.1]
        rcases c with e | e | e
        · rw [if_pos e]; exact go
        · rw [if_neg (by rw [e]; decide), if_pos e]; exact go
        · rw [if_neg (by rw [e]; decide), if_neg (by rw [e]; decide), if_pos e]; exact go
      have nc : ¬ ccd (bt n T k1) = -1 := by rcases c with e | e | e <;> rw [e] <;> decide
      rcases sum_X hT (k1 + 1) kn (by omega) with ⟨k', b1, b2, b3, b4⟩ | ⟨c2, k', b1, b2, b3, b4⟩
      · refine Or.inl ⟨k', by omega, b2, fun a σ h => ?_, fun kk τ0 h e st cd τ j a4' q l => ?_⟩
        · obtain ⟨v, σ1, j1, j2, j3, j4⟩ := refA a σ h
          obtain ⟨w, σ2, l1, l2, l3⟩ := b3 a σ1 j2
          exact ⟨_, σ2, by rw [j4, l1, bind_pq], j1.trans l2, l3, cmpv01⟩
        · obtain ⟨τ1, j1, j2, j3⟩ := a4 τ0 h e st cd τ q l
          obtain ⟨τ', l1, l2, l3⟩ := b4 τ0 h e [] (cd ++ c1) _ (j2.go kn) (by omega)
          exact ⟨τ', by unfold testX; rw [j1, bind_pq, if_neg n10, j2.2.1.next hT, bind_so, ccd_X, bind_so, if_neg nc, l1, bind_pq, if_pos rfl], l2, l3⟩
      · refine Or.inr ⟨c1, c2, bt n T k1, k', by omega, b2, c, fun a σ h => ?_, fun kk τ0 h e st cd τ j a4' q l => ?_⟩
        · obtain ⟨v, σ1, j1, j2, j3, j4⟩ := refA a σ h
          obtain ⟨w, σ2, l1, l2, l3, l4⟩ := b3 a σ1 j2
          exact ⟨v, w, σ2, by rw [j4, l1, bind_pq], j1.trans l2, l3, j3, by rw [j1.2] at l4; exact l4⟩
        · obtain ⟨τ1, j1, j2, j3⟩ := a4 τ0 h e st cd τ q l
          obtain ⟨τ2, l1, l2, l3⟩ := b4 τ0 h (e + 1) [] (cd ++ c1) _ (j2.go kn) (by omega)
          obtain ⟨τ3, u1, u2⟩ := l2.emit (by omega) (ccd (bt n T k1))
          refine ⟨τ3, ?_, by rw [show cd ++ (c1 ++ c2 ++ [ccd (bt n T k1)]) = cd ++ c1 ++ c2 ++ [ccd (bt n T k1)] by simp only [List.append_assoc]]; exact u2, ?_⟩
          · unfold testX
            rw [j1, bind_pq, if_neg n10, j2.2.1.next hT, bind_so, ccd_X, bind_so, if_neg nc, l1, bind_pq, if_neg n10]
            unfold oA
            simp only [if_pos l2.1]
            rw [u1, bind_pq]
          · rw [show cd ++ (c1 ++ c2 ++ [ccd (bt n T k1)]) = cd ++ c1 ++ c2 ++ [ccd (bt n T k1)] by simp only [List.append_assoc], List.length_append, List.length_singleton]; omega
    · have nc : ccd (bt n T k1) = -1 := by
        unfold ccd
        rw [if_neg (fun e => c (Or.inl e)), if_neg (fun e => c (Or.inr (Or.inl e))), if_neg (fun e => c (Or.inr (Or.inr e)))]
      refine Or.inl ⟨k1, by omega, a2, fun a σ h => ?_, fun kk τ0 h e st cd τ j a4' q l => ?_⟩
      · obtain ⟨v, σ1, j1, j2, j3, j4⟩ := a3 a σ h
        obtain ⟨b, σ2, l1, l2, l3, l4⟩ := J36_w (v := v) (x := bt n T k1) j3
        refine ⟨b, σ2, ?_, j2.trans l2, l3, l4⟩
        unfold M_test
        rw [j1, bind_pq, j3.byte hT, bind_so, if_pos j3.2.2.2.2.1, if_neg (fun e => c (Or.inl e)), if_neg (fun e => c (Or.inr (Or.inl e))), if_neg (fun e => c (Or.inr (Or.inr e))), l1]
      · obtain ⟨τ1, j1, j2, j3⟩ := a4 τ0 h e st cd τ q l
        exact ⟨τ1, by unfold testX; rw [j1, bind_pq, if_neg n10, j2.2.1.next hT, bind_so, ccd_X, bind_so, if_pos nc], j2.2.1, j2.2.2.2.2.2.2⟩
/-- tests in a row -/
def TestsN (nm : Nat → Int32) : Nat → List Int32 → Int32 → Prop
  | 0, c, b => c = [] ∧ b = 1
  | m + 1, c, b => ∃ (c1 c2 rest : List Int32) (v w x b' : Int32), c = c1 ++ c2 ++ [ccd x] ++ rest ∧ is3 x ∧ RunsTo nm c1 v ∧ RunsTo nm c2 w ∧ TestsN nm m rest b' ∧ b = (if cmpv x v w = 0 then 0 else b')
def TestsTo (nm : Nat → Int32) (c : List Int32) (b : Int32) : Prop := ∃ m, TestsN nm m c b
theorem TestsTo.nil {nm : Nat → Int32} : TestsTo nm [] 1 := ⟨0, rfl, rfl⟩
theorem TestsTo.cons {nm : Nat → Int32} {c1 c2 rest : List Int32} {v w x b : Int32} (h1 : is3 x) (h2 : RunsTo nm c1 v) (h3 : RunsTo nm c2 w) (h4 : TestsTo nm rest b) : TestsTo nm (c1 ++ c2 ++ [ccd x] ++ rest) (if cmpv x v w = 0 then 0 else b) := by
  obtain ⟨m, h4⟩ := h4
  exact ⟨m + 1, c1, c2, rest, v, w, x, b, rfl, h1, h2, h3, h4, rfl⟩
theorem TestsN.b01 {nm : Nat → Int32} : ∀ {m : Nat} {c : List Int32} {b : Int32}, TestsN nm m c b → b = 0 ∨ b = 1 := by
  intro m
  induction m with
  | zero => intro c b h; exact Or.inr h.2
  | succ m ih =>
    rintro c b ⟨c1, c2, rest, v, w, x, b', -, -, -, -, h, e⟩
    rw [e]
    split
    · exact Or.inl rfl
    · exact ih h
def strA : List Int32 := [32, 97, 110, 100, 32]
def strI : List Int32 := [32, 105, 102, 32]
theorem and_C : ∀ j, j < strA.length → strC 1000005 (nI (0 + j)) = some (strA.getD j 0) := by decide +kernel
theorem if_C : ∀ j, j < strI.length → strC 1000004 (nI (0 + j)) = some (strI.getD j 0) := by decide +kernel
theorem ex_C {q : Nat} {w : List Int32} (h : ∀ j, j < w.length → strC q (nI (0 + j)) = some (w.getD j 0)) : ∀ j, j < 0 + w.length → ∃ c, strC q (nI j) = some c := fun j hj => ⟨_, by have := h j (by omega); rw [Nat.zero_add] at this; exact this⟩
theorem J105_X {kk : XS → Option Nat → Int32 → Int32 → Option (Int32 × XS)} {τ τ1 : XS} {h q : Nat} {a2 a4 r : Int32} (e : Tp_readAll τ q = some (r, τ1)) : Tp_readClause_J105 kk τ (some h) a2 a4 q = if r = 0 then some (0, τ1) else testX kk τ1 h a2 a4 := by
  unfold Tp_readClause_J105 testX
  rw [e, bind_pq]
theorem tests_loop {n : Nat} {T : Nat → Int32} (hT : TpOK n T) : ∀ (d k fu fu' a4 : Nat), n - k ≤ d → k ≤ n → 1 ≤ a4 → a4 < k → d < fu → d < fu' →
    (∃ k', k ≤ k' ∧ k' ≤ n ∧ (∀ a σ b, (b = 0 ∨ b = 1) → MR a n T k 0 σ → ∃ b' σ', M_tests_L5_r fu σ b = some (b', σ') ∧ Lk σ σ' ∧ MR a n T k' 1 σ') ∧ ∀ τ0 h e st cd τ j, Qc τ0 h n T k st cd τ → cd.length + e ≤ k → ∃ τ', Tp_readClause_L75_r fu' τ (some h) j (nI a4) = some (0, τ') ∧ XR n T k' τ' ∧ Fr τ0 τ' h) ∨
    (∃ c k', k ≤ k' ∧ k' ≤ n ∧ (∀ a σ b, (b = 0 ∨ b = 1) → MR a n T k 0 σ → ∃ b' σ', M_tests_L5_r fu σ b = some (if b = 0 then 0 else b', σ') ∧ Lk σ σ' ∧ MR a n T k' 0 σ' ∧ TestsTo (σ.2.1 49) c b') ∧ ∀ τ0 h e st cd τ j, Qc τ0 h n T k st cd τ → cd.length + e ≤ k → ∃ st' τ', Tp_readClause_L75_r fu' τ (some h) j (nI a4) = Tp_readClause_J170 τ' (some h) j ∧ Qc τ0 h n T k' st' (cd ++ c) τ' ∧ (cd ++ c).length + e ≤ k') := by
  have hn := hT.1
  intro d
  induction d with
  | zero =>
    intro k fu fu' a4 hd hk h1 h4 hf hf'
    obtain ⟨f, rfl, -⟩ := fuel hf
    obtain ⟨f', rfl, -⟩ := fuel hf'
    have nb : ¬ bt n T k = 32 := fun e => by have := bt_lt e (by decide); omega
    refine Or.inr ⟨[], k, Nat.le_refl _, hk, fun a σ b hb h => ⟨1, σ, ?_, Lk.rfl, h, TestsTo.nil⟩, fun τ0 h e st cd τ j q l => ⟨st, τ, ?_, by rw [List.append_nil]; exact q, by rw [List.append_nil]; exact l⟩⟩
    · rw [M_tests_L5_r, if_pos h.2.2.2.2.1, h.byte hT, bind_so, if_neg nb]
      rcases hb with rfl | rfl
      · rw [bz_0, if_pos rfl]
      · rw [bz_1, if_neg n10]
    · rw [Tp_readClause_L75_r, if_neg (fun g => by have := (nI_leI (a := 200) (by decide) (by omega)).mp g; omega), q.2.1.next hT, bind_so, if_neg nb]
  | succ d ih =>
    intro k fu fu' a4 hd hk h1 h4 hf hf'
    obtain ⟨f, rfl, hf2⟩ := fuel hf
    obtain ⟨f', rfl, hf2'⟩ := fuel hf'
    by_cases b32 : bt n T k = 32
    · have kn : k < n := bt_lt b32 (by decide)
      have a40 : ¬ nI a4 = 0 := fun g => by have := (nI_eq (b := 0) (by omega) (by decide)).mp g; omega
      have refE : ∀ a σ b, MR a n T k 0 σ → M_tests_L5_r (f + 1) σ b = (M_musts σ 1000005).bind (pq fun _ r3s => ((M_test r3s).bind (pq fun r4 r4s => (if b = 0 then M_tests_J45 (M_tests_L5_r f) r4s else if r4 = 0 then M_tests_J45 (M_tests_L5_r f) r4s else M_tests_J46 (M_tests_L5_r f) r4s 1)))) := by
        intro a σ b h
        rw [M_tests_L5_r, if_pos h.2.2.2.2.1, h.byte hT, bind_so, if_pos b32]
      have refN : ∀ (s : MS) (b r : Int32), (b = 0 ∨ b = 1) → (r = 0 ∨ r = 1) → ∃ b2, (b2 = 0 ∨ b2 = 1) ∧ b2 = (if b = 0 then 0 else r) ∧ (if b = 0 then M_tests_J45 (M_tests_L5_r f) s else if r = 0 then M_tests_J45 (M_tests_L5_r f) s else M_tests_J46 (M_tests_L5_r f) s 1) = M_tests_L5_r f s b2 := by
        intro s b r hb hr
        rcases hb with rfl | rfl
        · exact ⟨0, Or.inl rfl, rfl, rfl⟩
        · rcases hr with rfl | rfl
          · exact ⟨0, Or.inl rfl, rfl, rfl⟩
          · exact ⟨1, Or.inr rfl, rfl, rfl⟩
      have clsE : ∀ τ0 h st cd τ (j : Int32) r τ1, Qc τ0 h n T k st cd τ → Tp_readAll τ 1000005 = some (r, τ1) → Tp_readClause_L75_r (f' + 1) τ (some h) j (nI a4) = if r = 0 then some (0, τ1) else testX (Tp_readClause_L75_r f') τ1 h j (nI a4) := by
        intro τ0 h st cd τ j r τ1 q e
        rw [Tp_readClause_L75_r, if_neg (fun g => by have := (nI_leI (a := 200) (by decide) (by omega)).mp g; omega), q.2.1.next hT, bind_so, if_pos b32, if_neg a40]
        exact J105_X e
      have mw := fun a (σ : MS) (h : MR a n T k 0 σ) => all_M (q := 1000005) hT strA 0 k 100000 (ex_C and_C) and_C (by decide) (by decide) (by decide) (by decide) σ h
      have xw := fun τ0 h st cd τ (q : Qc τ0 h n T k st cd τ) => all_X (q := 1000005) hT strA 0 k 100000 and_C (by decide) (by decide) (by decide) (by decide) τ0 h st cd τ q
      have len := @ml_n n T strA k hk (by decide)
      have lle := @ml_le (bt n T) strA k
      by_cases full : ml (bt n T) strA k = strA.length
      · have s5 : strA.length = 5 := rfl
        rcases test_of hT (k + ml (bt n T) strA k) len (by omega) with ⟨k', b1, b2, b3, b4⟩ | ⟨c1, c2, x, k1, b1, b2, b3, b4, b5⟩
        · refine Or.inl ⟨k', by omega, b2, fun a σ b hb h => ?_, fun τ0 h e st cd τ j q l => ?_⟩
          · obtain ⟨σ1, g1, g2, g3⟩ := mw a σ h
            have g4 := (g3.resolve_right fun g => by omega).2
            obtain ⟨r, σ2, u1, u2, u3, u4⟩ := b3 a σ1 g4
            obtain ⟨b2', v1, v2, v3⟩ := refN σ2 b r hb u4
            have g1' : M_musts σ 1000005 = some ((), σ1) := g1
            obtain ⟨f1, rfl⟩ : ∃ f1, f = f1 + 1 := ⟨f - 1, by omega⟩
            refine ⟨b2', σ2, ?_, g2.trans u2, u3⟩
            rw [refE a σ b h, g1', bind_pq, u1, bind_pq, v3, M_tests_L5_r, if_neg (by rw [u3.2.2.2.2.1]; decide)]
            rcases v1 with e | e <;> rw [e]
            · rw [bz_0]
            · rw [bz_1]
          · obtain ⟨τ1, r, g1, g2, g3⟩ := xw τ0 h st cd τ q
            have g4 := (g3.resolve_right fun g => by omega).2
            subst g4
            rw [clsE τ0 h st cd τ j 1 τ1 q g1, if_neg n10]
            exact b4 _ τ0 h e st cd τ1 j _ g2 (by omega)
        · have ihh := ih k1 f f' (a4 + 1) (by omega) b2 (by omega) (by omega) (by omega) (by omega)
          rcases ihh with ⟨k', i1, i2, i3, i4⟩ | ⟨c, k', i1, i2, i3, i4⟩
          · refine Or.inl ⟨k', by omega, i2, fun a σ b hb h => ?_, fun τ0 h e st cd τ j q l => ?_⟩
            · obtain ⟨σ1, g1, g2, g3⟩ := mw a σ h
              have g4 := (g3.resolve_right fun g => by omega).2
              obtain ⟨v, w, σ2, u1, u2, u3, u4, u5⟩ := b4 a σ1 g4
              obtain ⟨b2', v1, v2, v3⟩ := refN σ2 b _ hb (cmpv01 (x := x) (v := v) (w := w))
              have g1' : M_musts σ 1000005 = some ((), σ1) := g1
              obtain ⟨b', σ3, z1, z2, z3⟩ := i3 a σ2 b2' v1 u3
              exact ⟨b', σ3, by rw [refE a σ b h, g1', bind_pq, u1, bind_pq, v3, z1], (g2.trans u2).trans z2, z3⟩
            · obtain ⟨τ1, r, g1, g2, g3⟩ := xw τ0 h st cd τ q
              have g4 := (g3.resolve_right fun g => by omega).2
              subst g4
              obtain ⟨τ2, u1, u2, u3⟩ := b5 (Tp_readClause_L75_r f') τ0 h e st cd τ1 j (nI a4) g2 (by omega)
              rw [clsE τ0 h st cd τ j 1 τ1 q g1, if_neg n10, u1, nI_1]
              exact i4 τ0 h e _ _ τ2 j u2 u3
          · refine Or.inr ⟨c1 ++ c2 ++ [ccd x] ++ c, k', by omega, i2, fun a σ b hb h => ?_, fun τ0 h e st cd τ j q l => ?_⟩
            · obtain ⟨σ1, g1, g2, g3⟩ := mw a σ h
              have g4 := (g3.resolve_right fun g => by omega).2
              obtain ⟨v, w, σ2, u1, u2, u3, u4, u5⟩ := b4 a σ1 g4
              obtain ⟨b2', v1, v2, v3⟩ := refN σ2 b _ hb (cmpv01 (x := x) (v := v) (w := w))
              have g1' : M_musts σ 1000005 = some ((), σ1) := g1
              obtain ⟨b', σ3, z1, z2, z3, z4⟩ := i3 a σ2 b2' v1 u3
              have lk2 := g2.trans u2
              refine ⟨if cmpv x v w = 0 then 0 else b', σ3, ?_, lk2.trans z2, z3, TestsTo.cons b3 (by rw [g2.2] at u4; exact u4) (by rw [g2.2] at u5; exact u5) (by rw [lk2.2] at z4; exact z4)⟩
              rw [refE a σ b h, g1', bind_pq, u1, bind_pq, v3, z1, v2]
              rcases hb with rfl | rfl
              · rfl
              · rw [if_neg n10, if_neg n10]
            · obtain ⟨τ1, r, g1, g2, g3⟩ := xw τ0 h st cd τ q
              have g4 := (g3.resolve_right fun g => by omega).2
              subst g4
              obtain ⟨τ2, u1, u2, u3⟩ := b5 (Tp_readClause_L75_r f') τ0 h e st cd τ1 j (nI a4) g2 (by omega)
              obtain ⟨st', τ3, z1, z2, z3⟩ := i4 τ0 h e _ _ τ2 j u2 u3
              refine ⟨st', τ3, by rw [clsE τ0 h st cd τ j 1 τ1 q g1, if_neg n10, u1, nI_1, z1], by rw [← List.append_assoc cd]; exact z2, by rw [← List.append_assoc cd]; exact z3⟩
      · refine Or.inl ⟨k + ml (bt n T) strA k, by omega, len, fun a σ b hb h => ?_, fun τ0 h e st cd τ j q l => ?_⟩
        · obtain ⟨σ1, g1, g2, g3⟩ := mw a σ h
          have g4 := (g3.resolve_left fun g => full g.1).2
          obtain ⟨r, σ2, u1, u2, u3, u4⟩ := test_w hT g4
          obtain ⟨b2', v1, v2, v3⟩ := refN σ2 b r hb u4
          have g1' : M_musts σ 1000005 = some ((), σ1) := g1
          obtain ⟨f1, rfl⟩ : ∃ f1, f = f1 + 1 := ⟨f - 1, by omega⟩
          refine ⟨b2', σ2, ?_, g2.trans u2, u3⟩
          rw [refE a σ b h, g1', bind_pq, u1, bind_pq, v3, M_tests_L5_r, if_neg (by rw [u3.2.2.2.2.1]; decide)]
          rcases v1 with e | e <;> rw [e]
          · rw [bz_0]
          · rw [bz_1]
        · obtain ⟨τ1, r, g1, g2, g3⟩ := xw τ0 h st cd τ q
          have g4 := (g3.resolve_left fun g => full g.1).2
          subst g4
          exact ⟨τ1, by rw [clsE τ0 h st cd τ j 0 τ1 q g1, if_pos rfl], g2.2.1, g2.2.2.2.2.2.2⟩
    · refine Or.inr ⟨[], k, Nat.le_refl _, hk, fun a σ b hb h => ⟨1, σ, ?_, Lk.rfl, h, TestsTo.nil⟩, fun τ0 h e st cd τ j q l => ⟨st, τ, ?_, by rw [List.append_nil]; exact q, by rw [List.append_nil]; exact l⟩⟩
      · rw [M_tests_L5_r, if_pos h.2.2.2.2.1, h.byte hT, bind_so, if_neg b32]
        rcases hb with rfl | rfl
        · rw [bz_0, if_pos rfl]
        · rw [bz_1, if_neg n10]
      · rw [Tp_readClause_L75_r, if_neg (fun g => by have := (nI_leI (a := 200) (by decide) (by omega)).mp g; omega), q.2.1.next hT, bind_so, if_neg b32]
