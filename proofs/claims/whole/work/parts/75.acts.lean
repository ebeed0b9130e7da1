/-! clause after clause -/
def FA (a : Nat) (σ σ' : MS) : Prop := (∀ i, i ≠ 46 → i ≠ 47 → i ≠ 48 → σ'.1 i = σ.1 i) ∧ (∀ r, r ≠ 18 → r ≠ 20 → r ≠ 21 → r ≠ 23 → r ≠ 24 → σ'.2.1 r = σ.2.1 r) ∧ (∀ i, i ≠ a → σ'.2.1 18 i = σ.2.1 18 i) ∧ (∀ i, (i < 8 * a ∨ 8 * a + 8 ≤ i) → σ'.2.1 20 i = σ.2.1 20 i ∧ σ'.2.1 21 i = σ.2.1 21 i ∧ σ'.2.1 23 i = σ.2.1 23 i ∧ σ'.2.1 24 i = σ.2.1 24 i) ∧ σ'.2.2 = σ.2.2
theorem FC.fa {a j : Nat} {σ σ' : MS} (h : FC a j σ σ') (hj : j < 8) : FA a σ σ' := ⟨h.1, h.2.1, h.2.2.1, fun i q => h.2.2.2.1 i (by omega), h.2.2.2.2⟩
theorem FA.lk {a : Nat} {σ σ' : MS} (h : Lk σ σ') : FA a σ σ' := (FC.lk (j := 0) h).fa (by decide)
theorem FA.trans {a : Nat} {x y z : MS} (h : FA a x y) (g : FA a y z) : FA a x z := by
  obtain ⟨h1, h2, h3, h4, h5⟩ := h
  obtain ⟨g1, g2, g3, g4, g5⟩ := g
  exact ⟨fun i a b c => (g1 i a b c).trans (h1 i a b c), fun r a b c d e => (g2 r a b c d e).trans (h2 r a b c d e), fun i a => (g3 i a).trans (h3 i a), fun i q => ⟨(g4 i q).1.trans (h4 i q).1, (g4 i q).2.1.trans (h4 i q).2.1, (g4 i q).2.2.1.trans (h4 i q).2.2.1, (g4 i q).2.2.2.trans (h4 i q).2.2.2⟩, g5.trans h5⟩
def FH (τ0 τ : XS) (h : Nat) : Prop := (∀ i, i ≠ 702 → i ≠ 704 → τ.1 i = τ0.1 i) ∧ (∀ i, i ≠ 703 → τ.2.1 i = τ0.2.1 i) ∧ τ.2.2.1 = τ0.2.2.1 ∧ nA τ = nA τ0 ∧ τ.2.2.2.2.1 = τ0.2.2.2.2.1 ∧ τ.2.2.2.2.2.1 = τ0.2.2.2.2.2.1 ∧ (∀ x, x ≠ h → τ.2.2.2.2.2.2 x = τ0.2.2.2.2.2.2 x) ∧ (∀ i, i ≠ 9 → i ≠ 2 → tF τ h i = tF τ0 h i) ∧ tA τ h 7 = tA τ0 h 7
theorem FW.fh {τ0 τ : XS} {h j : Nat} (f : FW τ0 τ h j) : FH τ0 τ h := ⟨f.1, f.2.1, f.2.2.1, f.2.2.2.1, f.2.2.2.2.1, f.2.2.2.2.2.1, f.2.2.2.2.2.2.1, f.2.2.2.2.2.2.2.1, f.2.2.2.2.2.2.2.2.1⟩
theorem FH.trans {a b c : XS} {h : Nat} (f : FH a b h) (g : FH b c h) : FH a c h := by
  obtain ⟨f1, f2, f3, f4, f5, f6, f7, f8, f9⟩ := f
  obtain ⟨g1, g2, g3, g4, g5, g6, g7, g8, g9⟩ := g
  exact ⟨fun i x y => (g1 i x y).trans (f1 i x y), fun i x => (g2 i x).trans (f2 i x), g3.trans f3, g4.trans f4, g5.trans f5, g6.trans f6, fun x y => (g7 x y).trans (f7 x y), fun i x y => (g8 i x y).trans (f8 i x y), g9.trans f9⟩
theorem Fr.fh {a b : XS} {h : Nat} (f : Fr a b h) : FH a b h := (f.fw (j := 0)).fh
def CFs (a h n : Nat) (T : Nat → Int32) (cd : List Int32) (σ : MS) (τ : XS) (j : Nat) : Prop := ∀ c, c < j → tA τ h 3 c = σ.2.1 20 (8 * a + c) ∧ σ.2.1 21 (8 * a + c) = 10000 ∧ ∃ (f : Nat) (cs ts : List Int32) (k1 k1' : Nat), tA τ h 4 c = nI f ∧ tA τ h 5 c = nI (f + cs.length) ∧ tA τ h 6 c = nI (f + cs.length + ts.length) ∧ f + cs.length + ts.length ≤ cd.length ∧ (∀ i x, (cs ++ ts)[i]? = some x → cd[f + i]? = some x) ∧ σ.2.1 23 (8 * a + c) = nI k1 ∧ k1 ≤ n ∧ RGood n T (M_sums (M_oneR 200)) k1 k1' cs ∧ ((ts = [] ∧ σ.2.1 24 (8 * a + c) = -1) ∨ ∃ k2 k2', k2 ≤ n ∧ σ.2.1 24 (8 * a + c) = nI k2 ∧ RTests n T k2 k2' ts)
theorem J175_w {a n k : Nat} {T : Nat → Int32} {w : Int32} {σ : MS} (h : MR a n T k w σ) (hn : n ≤ 200) (hw : w = 1 ∨ (w = 0 ∧ k ≠ n)) : ∃ σ', M_readsAct_J175 σ (nI a) = some (0, σ') ∧ Lk σ σ' ∧ MR a n T k 1 σ' := by
  have h1 : MR a n T k 1 (sI σ 48 1) := h.err
  have e : M_readsAct_J196 σ = some (0, sI σ 48 1) := by
    unfold M_readsAct_J196 M_readsAct_J201
    rw [bz_1, if_neg (by rw [h1.2.2.2.2.1]; decide)]
  refine ⟨sI σ 48 1, ?_, Lk.i (by simp), h1⟩
  unfold M_readsAct_J175
  rcases hw with rfl | ⟨rfl, hk⟩
  · rw [if_neg (by rw [h.2.2.2.2.1]; decide), e]
  · have := h.2.1
    rw [if_pos h.2.2.2.2.1, rd_nI h.1 (by decide), h.2.2.2.1, h.2.2.2.2.2.1, if_neg (fun g => hk ((nI_eq (by omega) (by omega)).mp g)), e]
theorem J175_ok {a n : Nat} {T : Nat → Int32} {σ : MS} (h : MR a n T n 0 σ) : ∃ σ', M_readsAct_J175 σ (nI a) = some (1, σ') ∧ Lk σ σ' := by
  have h1 : MR a n T n 0 (sI σ 48 0) := h.err
  refine ⟨sI σ 48 0, ?_, Lk.i (by simp)⟩
  unfold M_readsAct_J175 M_readsAct_J201
  rw [if_pos h.2.2.2.2.1, rd_nI h.1 (by decide), h.2.2.2.1, h.2.2.2.2.2.1, if_pos rfl, bz_0, if_pos h1.2.2.2.2.1]
theorem L121_w {a n k f : Nat} {T : Nat → Int32} {σ : MS} (h : MR a n T k 1 σ) (hn : n ≤ 200) : ∃ σ', M_readsAct_L121_r (f + 1) σ (nI a) = some (0, σ') ∧ Lk σ σ' ∧ MR a n T k 1 σ' := by
  rw [M_readsAct_L121_r, if_neg (by rw [h.2.2.2.2.1]; decide)]
  exact J175_w h hn (Or.inl rfl)
def clX (fu : Nat) (τ : XS) (h j : Nat) (s : Int32) : Option (Int32 × XS) := (bodyX τ h (nI j) s).bind (pq fun r3 r3s => (if r3 = 0 then some (r3s.1 702, r3s) else if (r3s.1 702) < (r3s.1 701) then (Tp_next r3s).bind fun r4 => (if r4 = 59 then if nI j = 7 then Tp_readAct_J86 r3s else (Tp_readAct_L39_r fu) (xI r3s 702 ((r3s.1 702) + 1)) (some h) (nI j + 1) else Tp_readAct_J86 r3s) else some (-1, r3s)))
theorem L39_E {τ τ1 : XS} {h j fu : Nat} {r : Int32} (hA : h < nA τ) (e2 : tF τ h 2 = nI j) (hj : j < 8) (e : Tp_readWord τ 1000001 = some (r, τ1)) : Tp_readAct_L39_r (fu + 1) τ (some h) (nI j) = if r < 0 then some (τ1.1 702, τ1) else clX fu τ1 h j r := by
  rw [Tp_readAct_L39_r, if_neg (fun g => by have := (nI_leI (a := 8) (by decide) (by omega)).mp g; omega), clause_E hA e2 hj e]
  by_cases c : r < 0
  · rw [if_pos c, if_pos c, bind_pq, if_pos rfl]
  · rw [if_neg c, if_neg c]; rfl
theorem seg_old {cd x : List Int32} {f : Nat} {c : List Int32} (h : ∀ i y, c[i]? = some y → cd[f + i]? = some y) : ∀ i y, c[i]? = some y → (cd ++ x)[f + i]? = some y := fun i y hy => by
  have := h i y hy
  rw [List.getElem?_append_left (List.getElem?_eq_some_iff.mp this).1]
  exact this
theorem seg_new {cd c : List Int32} : ∀ i y, c[i]? = some y → (cd ++ c)[cd.length + i]? = some y := fun i y hy => by
  rw [List.getElem?_append_right (Nat.le_add_right _ _), Nat.add_sub_cancel_left]; exact hy
theorem act_loop {n a h : Nat} {T : Nat → Int32} (hT : TpOK n T) : ∀ (d j k fu fu' : Nat) (σ : MS) (τ : XS) (st cd : List Int32) (s : Int32), j + d = 7 → 1 ≤ k → d < fu → d ≤ fu' → MR a n T k 0 σ → Qc τ h n T k st cd τ → cd.length ≤ k → CFs a h n T cd σ τ j → σ.2.1 18 a = nI j → tF τ h 2 = nI j →
    (∃ k' σ' τ', k' ≤ n ∧ (M_readsClause σ (nI a) s).bind (pq fun _ r8s => M_readsAct_L121_r fu r8s (nI a)) = some (0, σ') ∧ FA a σ σ' ∧ σ'.1 47 = nI k' ∧ clX fu' τ h j s = some (nI k', τ') ∧ FH τ τ' h) ∨
    (∃ nc cd' σ' τ', nc ≤ 8 ∧ (M_readsClause σ (nI a) s).bind (pq fun _ r8s => M_readsAct_L121_r fu r8s (nI a)) = some (1, σ') ∧ FA a σ σ' ∧ clX fu' τ h j s = some (-1, τ') ∧ FH τ τ' h ∧ CFs a h n T cd' σ' τ' nc ∧ σ'.2.1 18 a = nI nc ∧ tF τ' h 2 = nI nc ∧ (∀ i x, cd'[i]? = some x → tA τ' h 8 i = x) ∧ cd'.length ≤ n) := by
  have hn := hT.1
  intro d
  induction d with
  | zero =>
    intro j k fu fu' σ τ st cd s hj hk hf hf' hm q hl hc e18 e2
    obtain ⟨f, rfl, -⟩ := fuel hf
    have ha := hm.1
    rcases body_of hT k hm.2.1 hk with ⟨k', b1, b2, b3, b4⟩ | ⟨cs, ts, k1, k1', k', b1, b2, b3, b4, b5, b6⟩
    · obtain ⟨σ1, g1, g2, g3⟩ := b3 a j s σ (by omega) hm e18
      obtain ⟨σ2, u1, u2, u3⟩ := L121_w (f := f) g3 hn
      obtain ⟨τ1, x1, x2, x3⟩ := b4 τ h st cd τ j s q hl (by omega)
      refine Or.inl ⟨k', σ2, τ1, b2, by rw [g1, bind_pq, u1], (g2.fa (by omega)).trans (FA.lk u2), u3.2.2.2.1, ?_, x3.fh⟩
      unfold clX
      rw [x1, bind_pq, if_pos rfl, x2.2.1]
    · obtain ⟨σ1, g1, g2, g3, g4, g5, g6, g7, g8⟩ := b5 a j s σ (by omega) hm e18
      obtain ⟨st', τ1, x1, x2, x3, x4, x5, x6, x7, x8, x9⟩ := b6 τ h st cd τ j s q hl (by omega) e2
      have hcf : CFs a h n T (cd ++ (cs ++ ts)) σ1 τ1 (j + 1) := by
        intro c hcj
        by_cases cj : c = j
        · subst cj
          refine ⟨by rw [x6, g5], g6, cd.length, cs, ts, k1, k1', x7, x8, x9, by rw [List.length_append, List.length_append]; omega, seg_new, g7, b3, b4, g8.imp id fun ⟨k2, y1, y2, y3⟩ => ⟨k2, k', y1, y2, y3⟩⟩
        · obtain ⟨y1, y2, f', cs', ts', m1, m2, z1, z2, z3, z4, z5, z6, z7, z8, z9⟩ := hc c (by omega)
          obtain ⟨o1, o2, o3, o4⟩ := g2.2.2.2.1 (8 * a + c) (by omega)
          obtain ⟨p1, p2, p3, p4⟩ := x4.2.2.2.2.2.2.2.2.2 c cj
          exact ⟨by rw [p1, o1]; exact y1, by rw [o2]; exact y2, f', cs', ts', m1, m2, by rw [p2]; exact z1, by rw [p3]; exact z2, by rw [p4]; exact z3, by rw [List.length_append]; omega, seg_old z5, by rw [o3]; exact z6, z7, z8, by rw [o4]; exact z9⟩
      have ns : M_readsAct_L121_r (f + 1) σ1 (nI a) = M_readsAct_J175 σ1 (nI a) := by
        rw [M_readsAct_L121_r, if_pos g3.2.2.2.2.1, rd_nI ha (by decide), g4, if_pos (show (8 : Int32) ≤ nI (j + 1) from (nI_leI (a := 8) (by decide) (by omega)).mpr (by omega))]
      by_cases kn : k' = n
      · subst kn
        obtain ⟨σ2, u1, u2⟩ := J175_ok g3
        refine Or.inr ⟨j + 1, cd ++ (cs ++ ts), σ2, τ1, by omega, by rw [g1, bind_pq, ns, u1], (g2.fa (by omega)).trans (FA.lk u2), ?_, x4.fh, ?_, by rw [u2.2]; exact g4, x5, x2.2.2.2.2.2.1, by omega⟩
        · unfold clX
          rw [x1, bind_pq, if_neg n10, x2.2.1.2.1, x2.2.1.2.2.1, if_neg (by rw [i32_lt]; omega)]
        · unfold CFs; rw [u2.2]; exact hcf
      · obtain ⟨σ2, u1, u2, u3⟩ := J175_w g3 hn (Or.inr ⟨rfl, kn⟩)
        refine Or.inl ⟨k', σ2, τ1, b2, by rw [g1, bind_pq, ns, u1], (g2.fa (by omega)).trans (FA.lk u2), u3.2.2.2.1, ?_, x4.fh⟩
        unfold clX Tp_readAct_J86
        rw [x1, bind_pq, if_neg n10, x2.2.1.2.1, x2.2.1.2.2.1, if_pos (nI_lt (by omega) (by omega)), x2.2.1.next hT, bind_so]
        by_cases b59 : bt n T k' = 59
        · rw [if_pos b59, if_pos (show nI j = 7 by rw [show j = 7 by omega]; rfl)]
        · rw [if_neg b59]
  | succ d ih =>
    intro j k fu fu' σ τ st cd s hj hk hf hf' hm q hl hc e18 e2
    obtain ⟨f, rfl, hf2⟩ := fuel hf
    have ha := hm.1
    rcases body_of hT k hm.2.1 hk with ⟨k', b1, b2, b3, b4⟩ | ⟨cs, ts, k1, k1', k', b1, b2, b3, b4, b5, b6⟩
    · obtain ⟨σ1, g1, g2, g3⟩ := b3 a j s σ (by omega) hm e18
      obtain ⟨σ2, u1, u2, u3⟩ := L121_w (f := f) g3 hn
      obtain ⟨τ1, x1, x2, x3⟩ := b4 τ h st cd τ j s q hl (by omega)
      refine Or.inl ⟨k', σ2, τ1, b2, by rw [g1, bind_pq, u1], (g2.fa (by omega)).trans (FA.lk u2), u3.2.2.2.1, ?_, x3.fh⟩
      unfold clX
      rw [x1, bind_pq, if_pos rfl, x2.2.1]
    · obtain ⟨σ1, g1, g2, g3, g4, g5, g6, g7, g8⟩ := b5 a j s σ (by omega) hm e18
      obtain ⟨st', τ1, x1, x2, x3, x4, x5, x6, x7, x8, x9⟩ := b6 τ h st cd τ j s q hl (by omega) e2
      have hcf : CFs a h n T (cd ++ (cs ++ ts)) σ1 τ1 (j + 1) := by
        intro c hcj
        by_cases cj : c = j
        · subst cj
          refine ⟨by rw [x6, g5], g6, cd.length, cs, ts, k1, k1', x7, x8, x9, by rw [List.length_append, List.length_append]; omega, seg_new, g7, b3, b4, g8.imp id fun ⟨k2, y1, y2, y3⟩ => ⟨k2, k', y1, y2, y3⟩⟩
        · obtain ⟨y1, y2, f', cs', ts', m1, m2, z1, z2, z3, z4, z5, z6, z7, z8, z9⟩ := hc c (by omega)
          obtain ⟨o1, o2, o3, o4⟩ := g2.2.2.2.1 (8 * a + c) (by omega)
          obtain ⟨p1, p2, p3, p4⟩ := x4.2.2.2.2.2.2.2.2.2 c cj
          exact ⟨by rw [p1, o1]; exact y1, by rw [o2]; exact y2, f', cs', ts', m1, m2, by rw [p2]; exact z1, by rw [p3]; exact z2, by rw [p4]; exact z3, by rw [List.length_append]; omega, seg_old z5, by rw [o3]; exact z6, z7, z8, by rw [o4]; exact z9⟩
      have n8 : ¬ (8 : Int32) ≤ nI (j + 1) := fun g => by have := (nI_leI (a := 8) (by decide) (by omega)).mp g; omega
      have ns : bt n T k' ≠ 59 → M_readsAct_L121_r (f + 1) σ1 (nI a) = M_readsAct_J175 σ1 (nI a) := by
        intro b
        rw [M_readsAct_L121_r, if_pos g3.2.2.2.2.1, rd_nI ha (by decide), g4, if_neg n8, g3.byte hT, bind_so, if_neg b]
      by_cases kn : k' = n
      · have b59 : bt n T k' ≠ 59 := fun e => by have := bt_lt e (by decide); omega
        have ns' := ns b59
        subst kn
        obtain ⟨σ2, u1, u2⟩ := J175_ok g3
        refine Or.inr ⟨j + 1, cd ++ (cs ++ ts), σ2, τ1, by omega, by rw [g1, bind_pq, ns', u1], (g2.fa (by omega)).trans (FA.lk u2), ?_, x4.fh, ?_, by rw [u2.2]; exact g4, x5, x2.2.2.2.2.2.1, by omega⟩
        · unfold clX
          rw [x1, bind_pq, if_neg n10, x2.2.1.2.1, x2.2.1.2.2.1, if_neg (by rw [i32_lt]; omega)]
        · unfold CFs; rw [u2.2]; exact hcf
      · by_cases b59 : bt n T k' = 59
        · have kn' : k' < n := by omega
          have m2 := g3.go kn'
          have q2 := (x2.go kn').base
          have clE : clX fu' τ h j s = Tp_readAct_L39_r fu' (xI τ1 702 (τ1.1 702 + 1)) (some h) (nI (j + 1)) := by
            unfold clX
            rw [x1, bind_pq, if_neg n10, x2.2.1.2.1, x2.2.1.2.2.1, if_pos (nI_lt (by omega) (by omega)), x2.2.1.next hT, bind_so, if_pos b59, if_neg (fun g => by have := (nI_eq (b := 7) (by omega) (by decide)).mp g; omega), nI_1 j]
          have reE : (M_readsClause σ (nI a) s).bind (pq fun _ r8s => M_readsAct_L121_r (f + 1) r8s (nI a)) = (M_oneOf (sI σ1 47 (σ1.1 47 + 1)) 0 8).bind (pq fun r7 r7s => ((M_readsClause r7s (nI a) r7).bind (pq fun _ r8s => (M_readsAct_L121_r f r8s (nI a))))) := by
            rw [g1, bind_pq, M_readsAct_L121_r, if_pos g3.2.2.2.2.1, rd_nI ha (by decide), g4, if_neg n8, g3.byte hT, bind_so, if_pos b59]
          obtain ⟨b, r, w1, w2⟩ := subjects_X hT q2.2.1
          have kb := w2.le q2.2.1.1
          obtain ⟨f', rfl⟩ : ∃ f', fu' = f' + 1 := ⟨fu' - 1, by omega⟩
          have e2' : tF (xI τ1 702 (τ1.1 702 + 1)) h 2 = nI (j + 1) := x5
          have l39 := L39_E (fu := f') q2.1 e2' (by omega) w1
          have fr1 : FA a σ (sI σ1 47 (σ1.1 47 + 1)) := (g2.fa (by omega)).trans (FA.lk (Lk.i (by simp)))
          have fh1 : FH τ (xI τ1 702 (τ1.1 702 + 1)) h := x4.fh.trans (Fr.fh (Fr.i (Or.inl rfl)))
          rcases oneOf_M (lo := 0) (hi := 8) hT m2 (by decide) (by decide) w2 with ⟨rfl, σ3, o1, o2, o3⟩ | ⟨i, -, i8, ei, b0, σ3, o1, o2, o3⟩
          · have o1' : M_oneOf (sI σ1 47 (σ1.1 47 + 1)) 0 8 = some (nI 0, σ3) := o1
            have e18' : σ3.2.1 18 a = nI (j + 1) := by rw [o2.2]; exact g4
            obtain ⟨σ4, v1, v2, v3⟩ := clause_w (s := nI 0) hT o3 (Or.inl rfl) (show j + 1 < 8 by omega) e18'
            obtain ⟨f2, rfl⟩ : ∃ f2, f = f2 + 1 := ⟨f - 1, by omega⟩
            obtain ⟨σ5, u1, u2, u3⟩ := L121_w (f := f2) v3 hn
            refine Or.inl ⟨k' + 1 + b, σ5, xI (xI τ1 702 (τ1.1 702 + 1)) 702 (nI (k' + 1 + b)), kb, by rw [reE, o1', bind_pq, v1, bind_pq, u1], ((fr1.trans (FA.lk o2)).trans (v2.fa (by omega))).trans (FA.lk u2), u3.2.2.2.1, ?_, fh1.trans (Fr.fh (Fr.i (Or.inl rfl)))⟩
            rw [clE, l39, if_pos (by decide)]
            rw [xI_get]
          · subst ei
            have o1' : M_oneOf (sI σ1 47 (σ1.1 47 + 1)) 0 8 = some (nI i, σ3) := o1
            rw [Nat.sub_zero] at w1 l39
            have q3 := (q2.at kb).base
            have hcf3 : CFs a h n T (cd ++ (cs ++ ts)) σ3 (xI (xI τ1 702 (τ1.1 702 + 1)) 702 (nI (k' + 1 + b))) (j + 1) := by
              unfold CFs; rw [o2.2]; exact hcf
            have hr := ih (j + 1) (k' + 1 + b) f f' σ3 _ st' (cd ++ (cs ++ ts)) (nI i) (by omega) (by omega) (by omega) (by omega) o3 q3 (by omega) hcf3 (by rw [o2.2]; exact g4) x5
            have l39' : clX (f' + 1) τ h j s = clX f' (xI (xI τ1 702 (τ1.1 702 + 1)) 702 (nI (k' + 1 + b))) h (j + 1) (nI i) := by
              rw [clE, l39, if_neg (nI_not_lt0 (by omega))]
            have reE' : (M_readsClause σ (nI a) s).bind (pq fun _ r8s => M_readsAct_L121_r (f + 1) r8s (nI a)) = (M_readsClause σ3 (nI a) (nI i)).bind (pq fun _ r8s => (M_readsAct_L121_r f r8s (nI a))) := by
              rw [reE, o1', bind_pq]
            have fr3 := fr1.trans (FA.lk (a := a) o2)
            have fh3 := fh1.trans (Fr.fh (h := h) (Fr.i (τ := xI τ1 702 (τ1.1 702 + 1)) (v := nI (k' + 1 + b)) (Or.inl rfl)))
            rcases hr with ⟨k2, σ', τ', r1, r2, r3, r4, r5, r6⟩ | ⟨nc, cd', σ', τ', r1, r2, r3, r4, r5, r6⟩
            · exact Or.inl ⟨k2, σ', τ', r1, by rw [reE', r2], fr3.trans r3, r4, by rw [l39', r5], fh3.trans r6⟩
            · exact Or.inr ⟨nc, cd', σ', τ', r1, by rw [reE', r2], fr3.trans r3, by rw [l39', r4], fh3.trans r5, r6⟩
        · obtain ⟨σ2, u1, u2, u3⟩ := J175_w g3 hn (Or.inr ⟨rfl, kn⟩)
          refine Or.inl ⟨k', σ2, τ1, b2, by rw [g1, bind_pq, ns b59, u1], (g2.fa (by omega)).trans (FA.lk u2), u3.2.2.2.1, ?_, x4.fh⟩
          unfold clX Tp_readAct_J86
          rw [x1, bind_pq, if_neg n10, x2.2.1.2.1, x2.2.1.2.2.1, if_pos (nI_lt (by omega) (by omega)), x2.2.1.next hT, bind_so, if_neg b59]
