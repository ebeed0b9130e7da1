/-! an act is read from the tape -/
def FB (a : Nat) (σ σ' : MS) : Prop := (∀ i, i ≠ 46 → i ≠ 47 → i ≠ 48 → σ'.1 i = σ.1 i) ∧ (∀ r, r ≠ 18 → r ≠ 19 → r ≠ 20 → r ≠ 21 → r ≠ 22 → r ≠ 23 → r ≠ 24 → r ≠ 25 → σ'.2.1 r = σ.2.1 r) ∧ (∀ i, i ≠ a → σ'.2.1 18 i = σ.2.1 18 i ∧ σ'.2.1 19 i = σ.2.1 19 i ∧ σ'.2.1 25 i = σ.2.1 25 i) ∧ (∀ i, (i < 8 * a ∨ 8 * a + 8 ≤ i) → σ'.2.1 20 i = σ.2.1 20 i ∧ σ'.2.1 21 i = σ.2.1 21 i ∧ σ'.2.1 23 i = σ.2.1 23 i ∧ σ'.2.1 24 i = σ.2.1 24 i) ∧ (∀ i, (i < 200 * a ∨ 200 * a + 200 ≤ i) → σ'.2.1 22 i = σ.2.1 22 i) ∧ σ'.2.2 = σ.2.2
theorem FA.fb {a : Nat} {σ σ' : MS} (h : FA a σ σ') : FB a σ σ' := ⟨h.1, fun r h1 _ h3 h4 _ h6 h7 _ => h.2.1 r h1 h3 h4 h6 h7, fun i q => ⟨h.2.2.1 i q, by rw [h.2.1 19 (by decide) (by decide) (by decide) (by decide) (by decide)], by rw [h.2.1 25 (by decide) (by decide) (by decide) (by decide) (by decide)]⟩, h.2.2.2.1, fun i _ => by rw [h.2.1 22 (by decide) (by decide) (by decide) (by decide) (by decide)], h.2.2.2.2⟩
theorem FB.trans {a : Nat} {x y z : MS} (h : FB a x y) (g : FB a y z) : FB a x z := by
  obtain ⟨h1, h2, h3, h4, h5, h6⟩ := h
  obtain ⟨g1, g2, g3, g4, g5, g6⟩ := g
  exact ⟨fun i a b c => (g1 i a b c).trans (h1 i a b c), fun r a b c d e f g h => (g2 r a b c d e f g h).trans (h2 r a b c d e f g h), fun i q => ⟨(g3 i q).1.trans (h3 i q).1, (g3 i q).2.1.trans (h3 i q).2.1, (g3 i q).2.2.trans (h3 i q).2.2⟩, fun i q => ⟨(g4 i q).1.trans (h4 i q).1, (g4 i q).2.1.trans (h4 i q).2.1, (g4 i q).2.2.1.trans (h4 i q).2.2.1, (g4 i q).2.2.2.trans (h4 i q).2.2.2⟩, fun i q => (g5 i q).trans (h5 i q), g6.trans h6⟩
theorem FB.one {a r : Nat} {σ : MS} {v : Int32} (hr : r = 18 ∨ r = 19 ∨ r = 25) : FB a σ (sA σ r (upd (σ.2.1 r) a v)) := by
  refine ⟨fun _ _ _ _ => rfl, fun x h1 h2 _ _ _ _ _ h8 => sA_ne (by omega), fun i q => ?_, fun i _ => ⟨by rw [sA_ne (by omega)], by rw [sA_ne (by omega)], by rw [sA_ne (by omega)], by rw [sA_ne (by omega)]⟩, fun i _ => by rw [sA_ne (by omega)], rfl⟩
  rcases hr with rfl | rfl | rfl
  · exact ⟨by rw [sA_get, upd_no q], by rw [sA_ne (by decide)], by rw [sA_ne (by decide)]⟩
  · exact ⟨by rw [sA_ne (by decide)], by rw [sA_get, upd_no q], by rw [sA_ne (by decide)]⟩
  · exact ⟨by rw [sA_ne (by decide)], by rw [sA_ne (by decide)], by rw [sA_get, upd_no q]⟩
theorem FB.txt {a i : Nat} {σ : MS} {v : Int32} (hi : i < 200) : FB a σ (sA σ 22 (upd (σ.2.1 22) (200 * a + i) v)) := ⟨fun _ _ _ _ => rfl, fun x _ _ _ _ h5 _ _ _ => sA_ne h5, fun _ _ => ⟨by rw [sA_ne (by decide)], by rw [sA_ne (by decide)], by rw [sA_ne (by decide)]⟩, fun _ _ => ⟨by rw [sA_ne (by decide)], by rw [sA_ne (by decide)], by rw [sA_ne (by decide)], by rw [sA_ne (by decide)]⟩, fun x q => by rw [sA_get, upd_no (by omega)], rfl⟩
theorem FB.i {a j : Nat} {σ : MS} {v : Int32} (hj : j = 46 ∨ j = 47 ∨ j = 48) : FB a σ (sI σ j v) := (FA.lk (Lk.i hj)).fb
theorem FB.rfl {a : Nat} {σ : MS} : FB a σ σ := (FA.lk Lk.rfl).fb
/-- the reference's reading once the tape is copied -/
def tailM (σ : MS) (a : Nat) : Option (Int32 × MS) := (M_oneOf (sA (sI (sI (sI σ 46 (nI a)) 47 0) 48 0) 18 (upd (σ.2.1 18) a 0)) 0 9).bind (pq fun r1 r1s => (if (r1s.1 48) = 0 then if r1 = 9 then M_readsAct_J97 r1s (nI a) r1 1 (nI a) else M_readsAct_J96 r1s (nI a) r1 (nI a) else M_readsAct_J96 r1s (nI a) r1 (nI a)))
theorem copy_M {a n : Nat} (ha : a < 9) (hn : n ≤ 200) : ∀ (d i fu : Nat) (σ : MS), i + d = n → d < fu → σ.1 15 = nI n → (∀ x, x < i → σ.2.1 22 (200 * a + x) = σ.2.1 14 x) → ∃ σ', M_readsAct_L12_r fu σ (nI a) (nI i) = tailM σ' a ∧ FB a σ σ' ∧ (∀ x, x < n → σ'.2.1 22 (200 * a + x) = σ.2.1 14 x) ∧ σ'.2.1 25 = σ.2.1 25 := by
  intro d
  induction d with
  | zero =>
    intro i fu σ hi hf h15 hx
    obtain ⟨f, rfl, -⟩ := fuel hf
    refine ⟨σ, ?_, FB.rfl, fun x h => hx x (by omega), rfl⟩
    rw [M_readsAct_L12_r, h15, if_pos (by rw [show i = n by omega]; exact Int32.le_refl _), wr_nI ha (by decide), cl_nI (by omega)]
    rfl
  | succ d ih =>
    intro i fu σ hi hf h15 hx
    obtain ⟨f, rfl, hf2⟩ := fuel hf
    have idx : (200 : Int32) * nI a + nI i = nI (200 * a + i) := by rw [show (200 : Int32) = nI 200 from rfl, nI_mul, nI_add]
    obtain ⟨σ', g1, g2, g3, g4⟩ := ih (i + 1) f (sA σ 22 (upd (σ.2.1 22) (200 * a + i) (σ.2.1 14 i))) (by omega) (by omega) h15 (fun x h => by
      rw [sA_get, sA_ne (show (14 : Nat) ≠ 22 by decide)]
      by_cases c : x = i
      · rw [c, upd_at]
      · rw [upd_no (by omega)]; exact hx x (by omega))
    refine ⟨σ', ?_, (FB.txt (by omega)).trans g2, fun x h => by rw [g3 x h, sA_ne (by decide)], by rw [g4, sA_ne (by decide)]⟩
    rw [M_readsAct_L12_r, h15, if_neg (nI_ge (by omega) (by omega)), rd_nI (by omega) (by decide), idx, wr_nI (by omega) (by decide), cl_nI (by omega), nI_1]
    exact g1
def FT (τ0 τ : XS) (h : Nat) : Prop := (∀ i, i ≠ 702 → i ≠ 704 → τ.1 i = τ0.1 i) ∧ (∀ i, i ≠ 703 → τ.2.1 i = τ0.2.1 i) ∧ τ.2.2.1 = τ0.2.2.1 ∧ nA τ = nA τ0 ∧ τ.2.2.2.2.1 = τ0.2.2.2.2.1 ∧ τ.2.2.2.2.2.1 = τ0.2.2.2.2.2.1 ∧ (∀ x, x ≠ h → τ.2.2.2.2.2.2 x = τ0.2.2.2.2.2.2 x)
theorem FH.ft {τ0 τ : XS} {h : Nat} (f : FH τ0 τ h) : FT τ0 τ h := ⟨f.1, f.2.1, f.2.2.1, f.2.2.2.1, f.2.2.2.2.1, f.2.2.2.2.2.1, f.2.2.2.2.2.2.1⟩
theorem FT.trans {a b c : XS} {h : Nat} (f : FT a b h) (g : FT b c h) : FT a c h := by
  obtain ⟨f1, f2, f3, f4, f5, f6, f7⟩ := f
  obtain ⟨g1, g2, g3, g4, g5, g6, g7⟩ := g
  exact ⟨fun i x y => (g1 i x y).trans (f1 i x y), fun i x => (g2 i x).trans (f2 i x), g3.trans f3, g4.trans f4, g5.trans f5, g6.trans f6, fun x y => (g7 x y).trans (f7 x y)⟩
theorem FT.tI {τ : XS} {h j : Nat} {v : Int32} : FT τ (xTI τ h j v) h := ⟨fun _ _ _ => rfl, fun _ _ => rfl, rfl, rfl, rfl, rfl, fun _ g => TI_o g⟩
theorem FT.tA {τ : XS} {h j : Nat} {f : Nat → Int32} : FT τ (xTA τ h j f) h := ⟨fun _ _ _ => rfl, fun _ _ => rfl, rfl, rfl, rfl, rfl, fun _ g => TA_o g⟩
theorem FT.at {τ : XS} {h : Nat} {v : Int32} : FT τ (xI τ 702 v) h := ⟨fun _ h1 _ => xI_ne h1, fun _ _ => rfl, rfl, rfl, rfl, rfl, fun _ _ => rfl⟩
theorem nI_any (x : Int32) : ∃ m, x = nI m := ⟨x.toBitVec.toNat, by
  unfold nI
  rw [← Int32.toBitVec_inj, Int32.toBitVec_ofNat']
  simp⟩
theorem Stk.any (f : Nat → Int32) : ∀ m : Nat, ∃ st : List Int32, st.length = m ∧ Stk f st := by
  intro m
  induction m with
  | zero => exact ⟨[], rfl, trivial⟩
  | succ m ih =>
    obtain ⟨st, h1, h2⟩ := ih
    exact ⟨f m :: st, by rw [List.length_cons, h1], by rw [← h1]; exact ⟨rfl, h2⟩⟩
def clrX (τ : XS) (h : Nat) : XS := xTA (xTI (xTI (xTI τ h 1 0) h 2 0) h 9 0) h 7 (fillF 8 10000 (tA (xTI (xTI (xTI τ h 1 0) h 2 0) h 9 0) h 7))
/-- what is read: either both find the same fault, or both have the same act -/
theorem act_top {a h n : Nat} {σ : MS} {τ : XS} (ha : a < 9) (hA : h < nA τ) (hn : n ≤ 200) (h15 : σ.1 15 = nI n) (h701 : τ.1 701 = nI n) (h700 : τ.2.1 700 = σ.2.1 14) (hb : ∀ i, InR (σ.2.1 14 i) 0 255) :
    (∃ k' σ' τ', k' ≤ 200 ∧ M_readsAct σ (nI a) = some (0, σ') ∧ FB a σ σ' ∧ σ'.1 47 = nI k' ∧ Tp_readAct τ (some h) = some (nI k', τ') ∧ FT τ τ' h) ∨
    (∃ nc cd σ' τ', nc ≤ 8 ∧ M_readsAct σ (nI a) = some (1, σ') ∧ FB a σ σ' ∧ Tp_readAct τ (some h) = some (-1, τ') ∧ FT τ τ' h ∧ CFs a h n (σ.2.1 14) cd σ' τ' nc ∧ σ'.2.1 18 a = nI nc ∧ tF τ' h 2 = nI nc ∧ (tF τ' h 1 = 0 ↔ σ'.2.1 19 a = 0) ∧ (∀ c, c < 8 → tA τ' h 7 c = 10000) ∧ (∀ i x, cd[i]? = some x → tA τ' h 8 i = x) ∧ cd.length ≤ n ∧ σ'.2.1 25 a = nI n ∧ ∀ i, i < n → σ'.2.1 22 (200 * a + i) = σ.2.1 14 i) := by
  have hT : TpOK n (σ.2.1 14) := ⟨hn, hb⟩
  -- the reference's start
  obtain ⟨σ1, c1, c2, c3, c4⟩ := copy_M ha hn n 0 100000 (sA σ 25 (upd (σ.2.1 25) a (nI n))) (by omega) (by omega) h15 (fun x h => by omega)
  have f1 : FB a σ σ1 := (FB.one (v := nI n) (by simp)).trans c2
  have e1 : M_readsAct σ (nI a) = tailM σ1 a := by
    unfold M_readsAct M_readsAct_L12
    rw [wr_nI ha (by decide), cl_nI (by omega), h15]
    exact c1
  have g22 : ∀ i, i < n → σ1.2.1 22 (200 * a + i) = σ.2.1 14 i := fun i hi => by rw [c3 i hi, sA_ne (by decide)]
  have g25 : σ1.2.1 25 a = nI n := by rw [c4, sA_get, upd_at]
  let σ2 := sA (sI (sI (sI σ1 46 (nI a)) 47 0) 48 0) 18 (upd (σ1.2.1 18) a 0)
  have f2 : FB a σ σ2 := (((f1.trans (FB.i (by simp))).trans (FB.i (by simp))).trans (FB.i (by simp))).trans (FB.one (r := 18) (v := 0) (by simp))
  have m2 : MR a n (σ.2.1 14) 0 0 σ2 := ⟨ha, Nat.zero_le _, by show (sI (sI (sI σ1 46 (nI a)) 47 0) 48 0).1 46 = _; rw [sI_ne (by decide), sI_ne (by decide), sI_get], by show (sI (sI (sI σ1 46 (nI a)) 47 0) 48 0).1 47 = _; rw [sI_ne (by decide), sI_get]; rfl, by show (sI (sI (sI σ1 46 (nI a)) 47 0) 48 0).1 48 = 0; exact sI_get, by rw [show σ2.2.1 25 = σ1.2.1 25 from sA_ne (by decide)]; exact g25, fun i hi => by rw [show σ2.2.1 22 = σ1.2.1 22 from sA_ne (by decide)]; exact g22 i hi⟩
  have e18 : σ2.2.1 18 a = nI 0 := by show (sA _ 18 _).2.1 18 a = _; rw [sA_get, upd_at]; rfl
  -- the class's start
  obtain ⟨m, hm⟩ := nI_any (τ.1 704)
  obtain ⟨st, s1, s2⟩ := Stk.any (τ.2.1 703) m
  let τ1 := xI (clrX τ h) 702 0
  have ft1 : FT τ τ1 h := ((((FT.tI.trans FT.tI).trans FT.tI).trans FT.tA).trans FT.at)
  have q1 : Qc τ1 h n (σ.2.1 14) 0 st [] τ1 := ⟨hA, ⟨Nat.zero_le _, xI_get, (xI_ne (by decide)).trans h701, h700⟩, by rw [s1]; exact (xI_ne (by decide)).trans hm, s2, by
    show tF (clrX τ h) h 9 = _
    unfold clrX
    rw [TA_F, TI_F]; rfl, fun i x hx => by simp at hx, Fr.rfl⟩
  have t1F1 : tF τ1 h 1 = 0 := by
    show tF (clrX τ h) h 1 = _
    unfold clrX
    rw [TA_F, TI_Fn (by decide), TI_Fn (by decide), TI_F]
  have t1F2 : tF τ1 h 2 = nI 0 := by
    show tF (clrX τ h) h 2 = _
    unfold clrX
    rw [TA_F, TI_Fn (by decide), TI_F]; rfl
  have t1A7 : ∀ c, c < 8 → tA τ1 h 7 c = 10000 := by
    intro c hc
    show tA (clrX τ h) h 7 c = _
    unfold clrX
    rw [TA_A]; unfold fillF; rw [if_pos hc]
  have clE : Tp_readAct τ (some h) = if bt n (σ.2.1 14) 0 = 98 then (Tp_readAll τ1 1000000).bind (pq fun r5 r5s => (if r5 = 0 then some (r5s.1 702, r5s) else oA (nA r5s) (some h) (fun a_2 => Tp_readAct_J37 (xTI r5s a_2 1 1) (some h)))) else Tp_readAct_J37 τ1 (some h) := by
    unfold Tp_readAct Ac_clear
    simp only [oA, gA, if_pos hA]
    rw [bind_pq]
    show (Tp_next τ1).bind _ = _
    rw [q1.2.1.next hT, bind_so]
    rfl
  -- from a subject on
  have go : ∀ (k : Nat) (σ3 : MS) (τ3 : XS) (i : Nat) (fu : Nat), 1 ≤ k → MR a n (σ.2.1 14) k 0 σ3 → Qc τ3 h n (σ.2.1 14) k st [] τ3 → FB a σ σ3 → FT τ τ3 h → σ3.2.1 18 a = nI 0 → tF τ3 h 2 = nI 0 → (tF τ3 h 1 = 0 ↔ σ3.2.1 19 a = 0) → (∀ c, c < 8 → tA τ3 h 7 c = 10000) → 7 ≤ fu → (∃ k' σ' τ', k' ≤ 200 ∧ M_readsAct_J115 σ3 (nI a) (nI i) = some (0, σ') ∧ FB a σ σ' ∧ σ'.1 47 = nI k' ∧ clX fu τ3 h 0 (nI i) = some (nI k', τ') ∧ FT τ τ' h) ∨ (∃ nc cd σ' τ', nc ≤ 8 ∧ M_readsAct_J115 σ3 (nI a) (nI i) = some (1, σ') ∧ FB a σ σ' ∧ clX fu τ3 h 0 (nI i) = some (-1, τ') ∧ FT τ τ' h ∧ CFs a h n (σ.2.1 14) cd σ' τ' nc ∧ σ'.2.1 18 a = nI nc ∧ tF τ' h 2 = nI nc ∧ (tF τ' h 1 = 0 ↔ σ'.2.1 19 a = 0) ∧ (∀ c, c < 8 → tA τ' h 7 c = 10000) ∧ (∀ i x, cd[i]? = some x → tA τ' h 8 i = x) ∧ cd.length ≤ n ∧ σ'.2.1 25 a = nI n ∧ ∀ i, i < n → σ'.2.1 22 (200 * a + i) = σ.2.1 14 i) := by
    intro k σ3 τ3 i fu hk hm3 q3 fb ft x18 x2 x1 x7 hfu
    rcases act_loop hT 7 0 k 100000 fu σ3 τ3 st [] (nI i) rfl hk (by decide) hfu hm3 q3 (Nat.zero_le _) (fun c hc => absurd hc (Nat.not_lt_zero _)) x18 x2 with ⟨k', σ', τ', r1, r2, r3, r4, r5, r6⟩ | ⟨nc, cd, σ', τ', r1, r2, r3, r4, r5, r6, r7, r8, r9, r10⟩
    · exact Or.inl ⟨k', σ', τ', by omega, r2, fb.trans r3.fb, r4, r5, ft.trans r6.ft⟩
    · refine Or.inr ⟨nc, cd, σ', τ', r1, r2, fb.trans r3.fb, r4, ft.trans r5.ft, r6, r7, r8, ?_, ?_, r9, r10, ?_, ?_⟩
      · rw [r5.2.2.2.2.2.2.2.1 1 (by decide) (by decide), r3.2.1 19 (by decide) (by decide) (by decide) (by decide) (by decide)]; exact x1
      · intro c hc; rw [r5.2.2.2.2.2.2.2.2]; exact x7 c hc
      · rw [r3.2.1 25 (by decide) (by decide) (by decide) (by decide) (by decide)]; exact hm3.2.2.2.2.2.1
      · intro i hi; rw [r3.2.1 22 (by decide) (by decide) (by decide) (by decide) (by decide)]; exact hm3.2.2.2.2.2.2 i hi
  -- a wrong start
  have bad : ∀ (k : Nat) (σ3 : MS) (i : Int32), MR a n (σ.2.1 14) k 1 σ3 → FB a σ σ3 → σ3.2.1 18 a = nI 0 → ∃ σ', M_readsAct_J115 σ3 (nI a) i = some (0, σ') ∧ FB a σ σ' ∧ σ'.1 47 = nI k := by
    intro k σ3 i hm3 fb x18
    obtain ⟨σ4, v1, v2, v3⟩ := clause_w (s := i) hT hm3 (Or.inl rfl) (show 0 < 8 by decide) x18
    obtain ⟨σ5, u1, u2, u3⟩ := L121_w (f := 99999) v3 hn
    exact ⟨σ5, by unfold M_readsAct_J115 M_readsAct_L121; rw [v1, bind_pq]; exact u1, (fb.trans (v2.fa (by decide)).fb).trans (FA.lk u2).fb, u3.2.2.2.1⟩
  -- the class's clauses from where it stands
  have jE : ∀ (k : Nat) (τ3 : XS) (b : Nat) (r : Int32), Qc τ3 h n (σ.2.1 14) k st [] τ3 → tF τ3 h 2 = nI 0 → Tp_readWord τ3 1000001 = some (r, xI τ3 702 (nI (k + b))) → Tp_readAct_J37 τ3 (some h) = if r < 0 then some (nI (k + b), xI τ3 702 (nI (k + b))) else clX 99999 (xI τ3 702 (nI (k + b))) h 0 r := by
    intro k τ3 b r q x2 e
    have := L39_E (fu := 99999) q.1 x2 (by decide) e
    rw [xI_get] at this
    exact this
  have m96 : ∀ (σ3 : MS) (s : Int32), M_readsAct_J96 σ3 (nI a) s (nI a) = M_readsAct_J115 (sA σ3 19 (upd (σ3.2.1 19) a 0)) (nI a) s := by
    intro σ3 s
    unfold M_readsAct_J96 M_readsAct_J97
    rw [wr_nI ha (by decide), cl_nI (by omega), nar0, rd_nI ha (by decide), sA_get, upd_at, if_pos rfl]
  by_cases b98 : bt n (σ.2.1 14) 0 = 98
  · -- begun
    have only : ∀ i, i < 9 → ml (bt n (σ.2.1 14)) (wd i) 0 = 0 := by
      intro i hi
      have hd : (wd i).getD 0 0 ≠ 98 := by revert i; decide +kernel
      by_cases z : ml (bt n (σ.2.1 14)) (wd i) 0 = 0
      · exact z
      · obtain ⟨-, -, y⟩ := (@ml_succ (bt n (σ.2.1 14)) (wd i) 0 0).mp (by omega)
        rw [Nat.add_zero, b98] at y
        exact absurd y.symm hd
    have w9 : wd 9 = [98, 101, 103, 117, 110, 59] := rfl
    have le9 := @ml_le (bt n (σ.2.1 14)) (wd 9) 0
    have ln9 := @ml_n n (σ.2.1 14) (wd 9) 0 (Nat.zero_le _) (wd_m1 9 (by decide))
    have len9 : (wd 9).length = 6 := rfl
    have inv8 : InvW (bt n (σ.2.1 14)) 0 0 9 0 (-1) := ⟨fun j hj => by rw [Nat.zero_add, only j hj]; exact Nat.le_refl _, Or.inl rfl, Or.inl ⟨rfl, fun j hj g => by have := wd_pos (0 + j) (by omega); omega⟩⟩
    obtain ⟨τ2, r, x1, x2, x3⟩ := all_X (q := 1000000) hT (wd 9) 0 0 100000 (by decide +kernel) (by decide) (by decide) (by decide) (wd_m1 9 (by decide)) τ1 h st [] τ1 q1
    have x1' : Tp_readAll τ1 1000000 = some (r, τ2) := x1
    rw [Nat.zero_add] at x2 ln9
    by_cases full : ml (bt n (σ.2.1 14)) (wd 9) 0 = 6
    · have r1 : r = 1 := (x3.resolve_right fun g => by omega).2
      subst r1
      have inv : InvW (bt n (σ.2.1 14)) 0 0 10 6 (nI 9) := inv8.up (by omega) full (Or.inl ⟨len9.symm, rfl⟩)
      rw [full] at x2
      rcases oneOf_M (lo := 0) (hi := 9) hT m2 (by decide) (by decide) inv with ⟨y, -⟩ | ⟨i, -, i9, ei, -, σ3, o1, o2, o3⟩
      · exact absurd y (by decide)
      · have i9' : i = 9 := by have := (nI_eq (by omega) (by omega)).mp ei; omega
        subst i9'
        rw [Nat.zero_add] at o3
        have o1' : M_oneOf σ2 0 9 = some (nI 9, σ3) := o1
        -- the reference goes on
        have reE : M_readsAct σ (nI a) = (M_oneOf (sA σ3 19 (upd (σ3.2.1 19) a 1)) 0 8).bind (pq fun r9 r9s => M_readsAct_J115 r9s (nI a) r9) := by
          rw [e1]
          show (M_oneOf σ2 0 9).bind _ = _
          rw [o1', bind_pq, if_pos o3.2.2.2.2.1, if_pos (show nI 9 = 9 from rfl)]
          unfold M_readsAct_J97
          rw [wr_nI ha (by decide), cl_nI (by omega), nar1, rd_nI ha (by decide), sA_get, upd_at, if_neg n10]
        have m4 : MR a n (σ.2.1 14) 6 0 (sA σ3 19 (upd (σ3.2.1 19) a 1)) := o3.row (by decide) (by decide)
        have q3 := x2.fld (r := 1) (v := 1) (by decide)
        have clE' : Tp_readAct τ (some h) = Tp_readAct_J37 (xTI τ2 h 1 1) (some h) := by
          rw [clE, if_pos b98, x1', bind_pq, if_neg n10]
          simp only [oA, if_pos x2.1]
        have x22 : tF (xTI τ2 h 1 1) h 2 = nI 0 := by rw [TI_Fn (by decide), x2.2.2.2.2.2.2.2.2.2.2.2.2.2.1 2 (by decide)]; exact t1F2
        obtain ⟨b, r, w1, w2⟩ := subjects_X hT q3.2.1
        have kb := w2.le q3.2.1.1
        have jj := jE 6 (xTI τ2 h 1 1) b r q3 x22 w1
        have fb4 : FB a σ (sA σ3 19 (upd (σ3.2.1 19) a 1)) := (f2.trans (FA.lk o2).fb).trans (FB.one (by simp))
        have ft3 : FT τ (xTI τ2 h 1 1) h := (ft1.trans x2.2.2.2.2.2.2.fh.ft).trans FT.tI
        rcases oneOf_M (lo := 0) (hi := 8) hT m4 (by decide) (by decide) w2 with ⟨rfl, σ5, p1, p2, p3⟩ | ⟨i, -, i8, ei, b0, σ5, p1, p2, p3⟩
        · have p1' : M_oneOf (sA σ3 19 (upd (σ3.2.1 19) a 1)) 0 8 = some (nI 0, σ5) := p1
          obtain ⟨σ6, u1, u2, u3⟩ := bad _ σ5 (nI 0) p3 (fb4.trans (FA.lk p2).fb) (by rw [p2.2, sA_ne (by decide), o2.2]; exact e18)
          exact Or.inl ⟨6 + b, σ6, _, by omega, by rw [reE, p1', bind_pq, u1], u2, u3, by rw [clE', jj, if_pos (by decide)], ft3.trans FT.at⟩
        · subst ei
          rw [Nat.sub_zero] at jj w1
          have p1' : M_oneOf (sA σ3 19 (upd (σ3.2.1 19) a 1)) 0 8 = some (nI i, σ5) := p1
          have t5 : σ5.2.1 19 a = 1 := by rw [p2.2, sA_get, upd_at]
          rcases go (6 + b) σ5 (xI (xTI τ2 h 1 1) 702 (nI (6 + b))) i 99999 (by omega) p3 (q3.at kb).base (fb4.trans (FA.lk p2).fb) (ft3.trans FT.at) (by rw [p2.2, sA_ne (by decide), o2.2]; exact e18) x22 (by rw [show tF (xI (xTI τ2 h 1 1) 702 (nI (6 + b))) h 1 = 1 from TI_F, t5]) (fun c hc => by
            show tA (xTI τ2 h 1 1) h 7 c = _
            rw [TI_A, x2.2.2.2.2.2.2.2.2.2.2.2.2.2.2 7 (by decide)]; exact t1A7 c hc) (by decide) with ⟨k', σ', τ', y1, y2, y3⟩ | ⟨nc, cd, σ', τ', y1, y2, y3, y4, y5⟩
          · exact Or.inl ⟨k', σ', τ', y1, by rw [reE, p1', bind_pq, y2], y3.1, y3.2.1, by rw [clE', jj, if_neg (nI_not_lt0 (by omega))]; exact y3.2.2.1, y3.2.2.2⟩
          · exact Or.inr ⟨nc, cd, σ', τ', y1, by rw [reE, p1', bind_pq, y2], y3, by rw [clE', jj, if_neg (nI_not_lt0 (by omega))]; exact y4, y5⟩
    · have r0 : r = 0 := (x3.resolve_left fun g => by omega).2
      subst r0
      have inv : InvW (bt n (σ.2.1 14)) 0 0 10 (ml (bt n (σ.2.1 14)) (wd 9) 0) (-1) := by
        by_cases z : ml (bt n (σ.2.1 14)) (wd 9) 0 = 0
        · rw [z]; exact inv8.low (by rw [Nat.zero_add]; omega) (fun g => by have := g.2; rw [Nat.zero_add] at this; omega)
        · exact inv8.up (by omega) (by rw [Nat.zero_add]) (Or.inr ⟨by rw [Nat.zero_add]; omega, by omega, rfl⟩)
      rcases oneOf_M (lo := 0) (hi := 9) hT m2 (by decide) (by decide) inv with ⟨-, σ3, o1, o2, o3⟩ | ⟨i, -, i9, ei, -⟩
      · have o1' : M_oneOf σ2 0 9 = some (nI 0, σ3) := o1
        rw [Nat.zero_add] at o3
        have m4 : MR a n (σ.2.1 14) (ml (bt n (σ.2.1 14)) (wd 9) 0) 1 (sA σ3 19 (upd (σ3.2.1 19) a 0)) := o3.row (by decide) (by decide)
        obtain ⟨σ6, u1, u2, u3⟩ := bad _ _ (nI 0) m4 ((f2.trans (FA.lk o2).fb).trans (FB.one (by simp))) (by rw [sA_ne (by decide), o2.2]; exact e18)
        refine Or.inl ⟨_, σ6, τ2, ?_, ?_, u2, u3, ?_, ft1.trans x2.2.2.2.2.2.2.fh.ft⟩
        · omega
        · rw [e1]
          show (M_oneOf σ2 0 9).bind _ = _
          rw [o1', bind_pq, if_neg (by rw [o3.2.2.2.2.1]; decide), m96, u1]
        · rw [clE, if_pos b98, x1', bind_pq, if_pos rfl, x2.2.1.2.1]
      · exact absurd ei.symm (nI_ne_m1 (by omega))
  · have z9 : ml (bt n (σ.2.1 14)) (wd 9) 0 = 0 := by
      by_cases z : ml (bt n (σ.2.1 14)) (wd 9) 0 = 0
      · exact z
      · obtain ⟨-, -, y⟩ := (@ml_succ (bt n (σ.2.1 14)) (wd 9) 0 0).mp (by omega)
        exact absurd y b98
    obtain ⟨b, r, w1, w2⟩ := subjects_X hT q1.2.1
    have kb := w2.le q1.2.1.1
    have inv : InvW (bt n (σ.2.1 14)) 0 0 10 b r := w2.low (by rw [Nat.zero_add, z9]; exact Nat.zero_le _) (fun g => by
      have g1 := g.1
      have g2 := g.2
      rw [Nat.zero_add] at g1 g2
      have : (wd 9).length = 6 := rfl
      omega)
    have jj := jE 0 τ1 b r q1 t1F2 w1
    have clE' : Tp_readAct τ (some h) = Tp_readAct_J37 τ1 (some h) := by rw [clE, if_neg b98]
    rcases oneOf_M (lo := 0) (hi := 9) hT m2 (by decide) (by decide) inv with ⟨rfl, σ3, o1, o2, o3⟩ | ⟨i, -, i9, ei, b0, σ3, o1, o2, o3⟩
    · have o1' : M_oneOf σ2 0 9 = some (nI 0, σ3) := o1
      have m4 : MR a n (σ.2.1 14) (0 + b) 1 (sA σ3 19 (upd (σ3.2.1 19) a 0)) := o3.row (by decide) (by decide)
      obtain ⟨σ6, u1, u2, u3⟩ := bad _ _ (nI 0) m4 ((f2.trans (FA.lk o2).fb).trans (FB.one (by simp))) (by rw [sA_ne (by decide), o2.2]; exact e18)
      refine Or.inl ⟨0 + b, σ6, _, by omega, ?_, u2, u3, by rw [clE', jj, if_pos (by decide)], ft1.trans FT.at⟩
      rw [e1]
      show (M_oneOf σ2 0 9).bind _ = _
      rw [o1', bind_pq, if_neg (by rw [o3.2.2.2.2.1]; decide), m96, u1]
    · subst ei
      rw [Nat.sub_zero] at jj w1
      have o1' : M_oneOf σ2 0 9 = some (nI i, σ3) := o1
      have ni9 : i ≠ 9 := by
        intro e
        subst e
        rcases w2.2.2 with ⟨y, -⟩ | ⟨j, j1, y, -⟩
        · exact absurd y (by decide)
        · have := (nI_eq (by omega) (by omega)).mp y; omega
      have m4 : MR a n (σ.2.1 14) (0 + b) 0 (sA σ3 19 (upd (σ3.2.1 19) a 0)) := o3.row (by decide) (by decide)
      have reE : M_readsAct σ (nI a) = M_readsAct_J115 (sA σ3 19 (upd (σ3.2.1 19) a 0)) (nI a) (nI i) := by
        rw [e1]
        show (M_oneOf σ2 0 9).bind _ = _
        rw [o1', bind_pq, if_pos o3.2.2.2.2.1, if_neg (show ¬ nI i = 9 from fun g => ni9 ((nI_eq (b := 9) (by omega) (by decide)).mp g)), m96]
      rcases go (0 + b) (sA σ3 19 (upd (σ3.2.1 19) a 0)) (xI τ1 702 (nI (0 + b))) i 99999 (by omega) m4 (q1.at kb).base ((f2.trans (FA.lk o2).fb).trans (FB.one (by simp))) (ft1.trans FT.at) (by rw [sA_ne (by decide), o2.2]; exact e18) t1F2 (by rw [show tF (xI τ1 702 (nI (0 + b))) h 1 = 0 from t1F1, sA_get, upd_at]) t1A7 (by decide) with ⟨k', σ', τ', y1, y2, y3⟩ | ⟨nc, cd, σ', τ', y1, y2, y3, y4, y5⟩
      · exact Or.inl ⟨k', σ', τ', y1, by rw [reE, y2], y3.1, y3.2.1, by rw [clE', jj, if_neg (nI_not_lt0 (by omega))]; exact y3.2.2.1, y3.2.2.2⟩
      · exact Or.inr ⟨nc, cd, σ', τ', y1, by rw [reE, y2], y3, by rw [clE', jj, if_neg (nI_not_lt0 (by omega))]; exact y4, y5⟩
