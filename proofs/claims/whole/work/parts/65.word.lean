/-! words on the tape: what both sides read -/
def bt (n : Nat) (T : Nat → Int32) (k : Nat) : Int32 := if n ≤ k then -1 else T k
def TpOK (n : Nat) (T : Nat → Int32) : Prop := n ≤ 200 ∧ ∀ i, InR (T i) 0 255
def MR (a n : Nat) (T : Nat → Int32) (k : Nat) (w : Int32) (σ : MS) : Prop := a < 9 ∧ k ≤ n ∧ σ.1 46 = nI a ∧ σ.1 47 = nI k ∧ σ.1 48 = w ∧ σ.2.1 25 a = nI n ∧ ∀ i, i < n → σ.2.1 22 (200 * a + i) = T i
def XR (n : Nat) (T : Nat → Int32) (k : Nat) (τ : XS) : Prop := k ≤ n ∧ τ.1 702 = nI k ∧ τ.1 701 = nI n ∧ τ.2.1 700 = T
theorem bt_lt {n : Nat} {T : Nat → Int32} {k : Nat} {c : Int32} (h : bt n T k = c) (hc : c ≠ -1) : k < n := by
  unfold bt at h
  by_cases q : n ≤ k
  · rw [if_pos q] at h; exact absurd h.symm hc
  · omega
theorem MR.byte {a n k : Nat} {T : Nat → Int32} {w : Int32} {σ : MS} (hT : TpOK n T) (h : MR a n T k w σ) : M_byteAt σ = some (bt n T k) := by
  obtain ⟨h1, h2, h3, h4, h5, h6, h7⟩ := h
  have := hT.1
  unfold M_byteAt bt
  rw [h3, rd_nI h1 (by decide), h6, h4]
  by_cases c : n ≤ k
  · rw [if_pos c, if_pos ((nI_leI (by omega) (by omega)).mpr c)]
  · rw [if_neg c, if_neg (fun q => c ((nI_leI (by omega) (by omega)).mp q)), show (200 : Int32) = nI 200 from rfl, nI_mul, nI_add, rd_nI (show 200 * a + k < 1800 by omega) (by decide), h7 k (by omega)]
theorem XR.next {n k : Nat} {T : Nat → Int32} {τ : XS} (hT : TpOK n T) (h : XR n T k τ) : Tp_next τ = some (bt n T k) := by
  obtain ⟨h1, h2, h3, h4⟩ := h
  have := hT.1
  unfold Tp_next bt
  rw [h2, h3]
  by_cases c : n ≤ k
  · rw [if_pos c, if_pos ((nI_leI (by omega) (by omega)).mpr c)]
  · rw [if_neg c, if_neg (fun q => c ((nI_leI (by omega) (by omega)).mp q)), if_neg (show ¬ (200 : Int32) ≤ nI k from fun q => by have := (nI_leI (a := 200) (by decide) (by omega)).mp q; omega), rd_nI (by omega) (by decide), h4]
theorem MR.go {a n k : Nat} {T : Nat → Int32} {w : Int32} {σ : MS} (h : MR a n T k w σ) (hk : k < n) : MR a n T (k + 1) w (sI σ 47 (σ.1 47 + 1)) := by
  obtain ⟨h1, h2, h3, h4, h5, h6, h7⟩ := h
  exact ⟨h1, hk, (sI_ne (by decide)).trans h3, by rw [sI_get, h4, nI_1], (sI_ne (by decide)).trans h5, h6, h7⟩
theorem MR.err {a n k : Nat} {T : Nat → Int32} {w w' : Int32} {σ : MS} (h : MR a n T k w σ) : MR a n T k w' (sI σ 48 w') := by
  obtain ⟨h1, h2, h3, h4, h5, h6, h7⟩ := h
  exact ⟨h1, h2, (sI_ne (by decide)).trans h3, (sI_ne (by decide)).trans h4, sI_get, h6, h7⟩
theorem Lk.i {σ : MS} {j : Nat} {v : Int32} (h : j = 46 ∨ j = 47 ∨ j = 48) : Lk σ (sI σ j v) := ⟨fun _ h1 h2 h3 => sI_ne (by omega), Eq.refl _⟩
/-- letters of a word that the tape has -/
def ml (f : Nat → Int32) : List Int32 → Nat → Nat
  | [], _ => 0
  | c :: r, k => if f k = c then ml f r (k + 1) + 1 else 0
theorem ml_le {f : Nat → Int32} : ∀ {w : List Int32} {k : Nat}, ml f w k ≤ w.length := by
  intro w
  induction w with
  | nil => intro k; exact Nat.le_refl _
  | cons c r ih =>
    intro k
    unfold ml
    have := ih (k := k + 1)
    by_cases q : f k = c
    · rw [if_pos q, List.length_cons]; omega
    · rw [if_neg q]; omega
theorem ml_succ {f : Nat → Int32} : ∀ {w : List Int32} {j k : Nat}, j + 1 ≤ ml f w k ↔ (j ≤ ml f w k ∧ j < w.length ∧ f (k + j) = w.getD j 0) := by
  intro w
  induction w with
  | nil => intro j k; simp [ml]
  | cons c r ih =>
    intro j k
    unfold ml
    by_cases q : f k = c
    · rw [if_pos q]
      cases j with
      | zero => simp [q]
      | succ j =>
        have := ih (j := j) (k := k + 1)
        rw [Nat.succ_le_succ_iff, this, List.length_cons, List.getD_cons_succ, show k + (j + 1) = k + 1 + j by omega]
        constructor
        · rintro ⟨a, b, d⟩; exact ⟨by omega, by omega, d⟩
        · rintro ⟨a, b, d⟩; exact ⟨by omega, by omega, d⟩
    · rw [if_neg q]
      constructor
      · intro g; omega
      · rintro ⟨g1, g2, g3⟩
        have : j = 0 := by omega
        subst this
        exact absurd g3 q
theorem ml_uniq {f : Nat → Int32} : ∀ {w w' : List Int32} {k : Nat}, ml f w k = w.length → ml f w' k = w'.length → w.length = w'.length → w = w' := by
  intro w
  induction w with
  | nil => intro w' k _ _ h; exact (List.eq_nil_of_length_eq_zero h.symm).symm
  | cons c r ih =>
    intro w' k h1 h2 h3
    cases w' with
    | nil => simp at h3
    | cons c' r' =>
      unfold ml at h1 h2
      by_cases q : f k = c
      · by_cases q' : f k = c'
        · rw [if_pos q, List.length_cons] at h1
          rw [if_pos q', List.length_cons] at h2
          simp only [List.length_cons] at h3
          rw [ih (w' := r') (k := k + 1) (by omega) (by omega) (by omega), ← q, ← q']
        · rw [if_neg q', List.length_cons] at h2; omega
      · rw [if_neg q, List.length_cons] at h1; omega
theorem like_spec {n k q : Nat} {T : Nat → Int32} {τ : XS} (hT : TpOK n T) (h : XR n T k τ) : ∀ (w : List Int32) (a5 a4 fu : Nat), w.length < fu → a5 + w.length < 100 → a4 + w.length < 100 → (∀ i, i < w.length → strC q (nI (a5 + i)) = some (w.getD i 0)) → (∀ c, c ∈ w → c ≠ -1) → Tp_likeLetters_L6_r τ fu q (nI (a5 + w.length)) (nI a4) (nI a5) = some (nI (a4 + ml (bt n T) w (k + a4))) := by
  obtain ⟨h1, h2, h3, h4⟩ := h
  have n2 := hT.1
  intro w
  induction w with
  | nil =>
    intro a5 a4 fu hf b5 b4 _ _
    obtain ⟨f, rfl, -⟩ := fuel hf
    rw [Tp_likeLetters_L6_r, if_pos (show nI (a5 + ([] : List Int32).length) ≤ nI a5 from Int32.le_refl _)]; rfl
  | cons c r ih =>
    intro a5 a4 fu hf b5 b4 hs hc
    obtain ⟨f, rfl, hf⟩ := fuel hf
    simp only [List.length_cons] at hf b5 b4 ⊢
    rw [Tp_likeLetters_L6_r, if_neg (nI_ge (by omega) (by omega)), h3, h2, nI_add]
    have c1 := hc c (by simp)
    unfold ml
    by_cases q1 : n ≤ k + a4
    · rw [if_pos ((nI_leI (by omega) (by omega)).mpr q1), if_neg (show ¬ bt n T (k + a4) = c from fun e => by have := bt_lt e c1; omega)]; rfl
    · have e0 := hs 0 (by simp)
      rw [Nat.add_zero] at e0
      rw [if_neg (fun g => q1 ((nI_leI (by omega) (by omega)).mp g)), rd_nI (by omega) (by decide), h4, e0, bind_so, show (c :: r).getD 0 0 = c from rfl]
      have eb : bt n T (k + a4) = T (k + a4) := if_neg q1
      rw [eb]
      by_cases q2 : T (k + a4) = c
      · rw [if_pos q2, if_pos q2, nI_1, nI_1, show a5 + (r.length + 1) = a5 + 1 + r.length by omega, ih (a5 + 1) (a4 + 1) f (by omega) (by omega) (by omega) (fun i hi => by have := hs (i + 1) (by simp; omega); rw [List.getD_cons_succ, show a5 + (i + 1) = a5 + 1 + i by omega] at this; exact this) (fun x hx => hc x (by simp [hx])), show k + (a4 + 1) = k + a4 + 1 by omega, show a4 + 1 + ml (bt n T) r (k + a4 + 1) = a4 + (ml (bt n T) r (k + a4 + 1) + 1) by omega]
      · rw [if_neg q2, if_neg q2]; rfl
def wi (i : Nat) : Nat := if i = 9 then 0 else if i < 9 then 6 + i else 5 + i
def wd (i : Nat) : List Int32 := strByt.getD (wi i) []
theorem wd_inj : ∀ i, i < 15 → ∀ j, j < 15 → wd i = wd j → i = j := by decide +kernel
theorem wd_pos : ∀ i, i < 15 → 0 < (wd i).length ∧ (wd i).length < 7 := by decide +kernel
theorem wd_m1 : ∀ i, i < 15 → ∀ c, c ∈ wd i → c ≠ -1 := by decide +kernel
theorem wd_32 : ∀ i, i < 15 → ∀ c, c ∈ wd i → c ≠ 32 := by decide +kernel
theorem wd_M {σ : MS} : ∀ {i : Nat}, i < 15 → M_word σ (nI i) = some (1000000 + wi i) := by
  intro i
  unfold M_word
  revert i
  decide +kernel
theorem wd_L : ∀ i, i < 15 → strL (1000000 + wi i) = some (nI (wd i).length) := by decide +kernel
theorem wd_C : ∀ i, i < 15 → ∀ j, j < 7 → j < (wd i).length → strC (1000000 + wi i) (nI j) = some ((wd i).getD j 0) := by decide +kernel
/-- among the words lo .. lo + i - 1: b letters are the most, r is the whole word of so many -/
def InvW (f : Nat → Int32) (k lo i b : Nat) (r : Int32) : Prop := (∀ j, j < i → ml f (wd (lo + j)) k ≤ b) ∧ (b = 0 ∨ ∃ j, j < i ∧ ml f (wd (lo + j)) k = b) ∧ ((r = -1 ∧ ∀ j, j < i → ¬ (ml f (wd (lo + j)) k = b ∧ (wd (lo + j)).length = b)) ∨ ∃ j, j < i ∧ r = nI j ∧ ml f (wd (lo + j)) k = b ∧ (wd (lo + j)).length = b)
theorem InvW.zero {f : Nat → Int32} {k lo : Nat} : InvW f k lo 0 0 (-1) := ⟨fun _ h => absurd h (Nat.not_lt_zero _), Or.inl rfl, Or.inl ⟨rfl, fun _ h => absurd h (Nat.not_lt_zero _)⟩⟩
theorem InvW.low {f : Nat → Int32} {k lo i b : Nat} {r : Int32} (h : InvW f k lo i b r) (c : ml f (wd (lo + i)) k ≤ b) (c2 : ¬ (ml f (wd (lo + i)) k = b ∧ (wd (lo + i)).length = b)) : InvW f k lo (i + 1) b r := by
  obtain ⟨h1, h2, h3⟩ := h
  refine ⟨fun j hj => ?_, h2.imp_right fun ⟨j, a1, a2⟩ => ⟨j, by omega, a2⟩, h3.imp (fun ⟨a1, a2⟩ => ⟨a1, fun j hj => ?_⟩) fun ⟨j, a1, a2⟩ => ⟨j, by omega, a2⟩⟩
  · by_cases q : j = i
    · rw [q]; exact c
    · exact h1 j (by omega)
  · by_cases q : j = i
    · rw [q]; exact c2
    · exact a2 j (by omega)
theorem InvW.up {f : Nat → Int32} {k lo i b b' : Nat} {r r' : Int32} (h : InvW f k lo i b r) (c : b ≤ b') (e : ml f (wd (lo + i)) k = b') (c2 : (b' = (wd (lo + i)).length ∧ r' = nI i) ∨ (b' ≠ (wd (lo + i)).length ∧ b < b' ∧ r' = -1)) : InvW f k lo (i + 1) b' r' := by
  obtain ⟨h1, h2, h3⟩ := h
  refine ⟨fun j hj => ?_, Or.inr ⟨i, by omega, e⟩, ?_⟩
  · by_cases q : j = i
    · rw [q]; omega
    · have := h1 j (by omega); omega
  · rcases c2 with ⟨g1, g2⟩ | ⟨g1, g2, g3⟩
    · exact Or.inr ⟨i, by omega, g2, e, g1.symm⟩
    · refine Or.inl ⟨g3, fun j hj => ?_⟩
      by_cases q : j = i
      · rw [q]; exact fun g => g1 g.2.symm
      · have := h1 j (by omega)
        exact fun g => by omega
theorem skip_X {τ : XS} {q L a5 : Nat} {b r i : Int32} {w : List Int32} (hL : strL q = some (nI L)) (hb : a5 + w.length < L) (hL5 : L < 100) (hs : ∀ j, j < w.length → strC q (nI (a5 + j)) = some (w.getD j 0)) (h32 : ∀ c, c ∈ w → c ≠ 32) : ∀ (m j fu : Nat), j + m = w.length → m < fu → ∃ fu', fu = fu' + m ∧ Tp_readWord_L13_r fu τ q b r i (nI a5) (nI (a5 + j)) = Tp_readWord_L13_r fu' τ q b r i (nI a5) (nI (a5 + w.length)) := by
  intro m
  induction m with
  | zero => intro j fu hj hf; exact ⟨fu, rfl, by rw [show j = w.length by omega]⟩
  | succ m ih =>
    intro j fu hj hf
    obtain ⟨f, rfl, hf⟩ := fuel hf
    obtain ⟨fu', e1, e2⟩ := ih (j + 1) f (by omega) (by omega)
    refine ⟨fu', by omega, ?_⟩
    have hm : w.getD j 0 ∈ w := by
      rw [List.getD_eq_getElem?_getD, List.getElem?_eq_getElem (show j < w.length by omega)]
      exact List.getElem_mem _
    rw [Tp_readWord_L13_r, hL, bind_so, if_neg (nI_ge (by omega) (by omega)), hs j (by omega), bind_so, if_neg (h32 _ hm)]
    unfold Tp_readWord_J86
    rw [nI_1, show a5 + j + 1 = a5 + (j + 1) by omega, e2]
theorem words_X {n k : Nat} {T : Nat → Int32} {τ : XS} (hT : TpOK n T) (h : XR n T k τ) {q L lo cnt : Nat} {st : Nat → Nat} (hL : strL q = some (nI L)) (hL5 : L < 60) (hlo : lo + cnt ≤ 15) (h0 : st 0 = 0) (he : st cnt = L)
    (hst : ∀ j, j < cnt → st (j + 1) = st j + (wd (lo + j)).length + 1 ∧ st j + (wd (lo + j)).length < L ∧ strC q (nI (st j + (wd (lo + j)).length)) = some 32)
    (hsc : ∀ j, j < cnt → ∀ i, i < 7 → i < (wd (lo + j)).length → strC q (nI (st j + i)) = some ((wd (lo + j)).getD i 0)) : ∃ b r, Tp_readWord τ q = some (r, xI τ 702 (nI (k + b))) ∧ InvW (bt n T) k lo cnt b r := by
  have h702 := h.2.1
  have key : ∀ (m j b fu : Nat) (r : Int32), j + m = cnt → InvW (bt n T) k lo j b r → b < 10 → 60 * m < fu → ∃ b' r', Tp_readWord_L13_r fu τ q (nI b) r (nI j) (nI (st j)) (nI (st j)) = some (r', xI τ 702 (nI (k + b'))) ∧ InvW (bt n T) k lo cnt b' r' := by
    intro m
    induction m with
    | zero =>
      intro j b fu r hj hi hb hf
      obtain ⟨f, rfl, -⟩ := fuel hf
      rw [show j = cnt by omega] at hi ⊢
      exact ⟨b, r, by rw [Tp_readWord_L13_r, hL, bind_so, he, if_pos (Int32.le_refl _), h702, nI_add], hi⟩
    | succ m ih =>
      intro j b fu r hj hi hb hf
      obtain ⟨s1, s2, s3⟩ := hst j (by omega)
      have s4 := hsc j (by omega)
      obtain ⟨p1, p2⟩ := wd_pos (lo + j) (by omega)
      have len := @ml_le (bt n T) (wd (lo + j)) k
      obtain ⟨f1, e1, e2⟩ := skip_X (τ := τ) (b := nI b) (r := r) (i := nI j) hL s2 (by omega) (fun i hi => s4 i (by omega) hi) (wd_32 _ (by omega)) (wd (lo + j)).length 0 fu (by omega) (by omega)
      rw [Nat.add_zero] at e2
      rw [e2]
      obtain ⟨f2, rfl, -⟩ := fuel (show 60 * m < f1 by omega)
      have lk : Tp_likeLetters τ q (nI (st j)) (nI (st j + (wd (lo + j)).length)) = some (nI (ml (bt n T) (wd (lo + j)) k)) := by
        have := like_spec (q := q) hT h (wd (lo + j)) (st j) 0 100000 (by omega) (by omega) (by omega) (fun i hi => s4 i (by omega) hi) (wd_m1 _ (by omega))
        rw [Nat.zero_add, Nat.add_zero] at this
        exact this
      have dif : nI (st j + (wd (lo + j)).length) - nI (st j) = nI (wd (lo + j)).length := by rw [nI_sub (by omega)]; congr 1; omega
      have next : ∀ b' r', InvW (bt n T) k lo (j + 1) b' r' → b' < 10 → ∃ b'' r'', Tp_readWord_J77 (Tp_readWord_L13_r f2) τ q (nI b') r' (nI j) (nI (st j + (wd (lo + j)).length)) = some (r'', xI τ 702 (nI (k + b''))) ∧ InvW (bt n T) k lo cnt b'' r'' := by
        intro b' r' g1 g2
        unfold Tp_readWord_J77 Tp_readWord_J86
        rw [nI_1, nI_1, show st j + (wd (lo + j)).length + 1 = st (j + 1) by omega]
        exact ih (j + 1) b' f2 r' (by omega) g1 g2 (by omega)
      rw [Tp_readWord_L13_r, hL, bind_so, if_neg (nI_ge (by omega) (by omega)), s3, bind_so, if_pos rfl, lk, bind_so]
      unfold Tp_readWord_J58
      rw [dif]
      by_cases c : ml (bt n T) (wd (lo + j)) k ≤ b
      · rw [if_pos ((nI_leI (by omega) (by omega)).mpr c)]
        by_cases c1 : ml (bt n T) (wd (lo + j)) k = b
        · rw [if_pos (by rw [c1])]
          by_cases c2 : ml (bt n T) (wd (lo + j)) k = (wd (lo + j)).length
          · rw [if_pos (by rw [c2])]
            exact next b (nI j) (hi.up (Nat.le_refl _) c1 (Or.inl ⟨by omega, rfl⟩)) hb
          · rw [if_neg (fun g => c2 ((nI_eq (by omega) (by omega)).mp g))]
            exact next b r (hi.low c (fun g => c2 (by omega))) hb
        · rw [if_neg (fun g => c1 ((nI_eq (by omega) (by omega)).mp g))]
          exact next b r (hi.low c (fun g => c1 g.1)) hb
      · rw [if_neg (fun g => c ((nI_leI (by omega) (by omega)).mp g)), if_pos rfl]
        by_cases c2 : ml (bt n T) (wd (lo + j)) k = (wd (lo + j)).length
        · rw [if_pos (by rw [c2])]
          exact next _ (nI j) (hi.up (by omega) rfl (Or.inl ⟨c2, rfl⟩)) (by omega)
        · rw [if_neg (fun g => c2 ((nI_eq (by omega) (by omega)).mp g))]
          exact next _ (-1) (hi.up (by omega) rfl (Or.inr ⟨c2, by omega, rfl⟩)) (by omega)
  obtain ⟨b, r, e1, e2⟩ := key cnt 0 0 100000 (-1) (by omega) InvW.zero (by decide) (by omega)
  rw [h0] at e1
  exact ⟨b, r, e1, e2⟩
theorem names_X {n k : Nat} {T : Nat → Int32} {τ : XS} (hT : TpOK n T) (h : XR n T k τ) : ∃ b r, Tp_readWord τ 1000003 = some (r, xI τ 702 (nI (k + b))) ∧ InvW (bt n T) k 10 5 b r :=
  words_X hT h (L := 26) (st := fun j => [0, 5, 11, 15, 21, 26].getD j 0) (by decide) (by decide) (by decide) rfl rfl (by decide +kernel) (by decide +kernel)
theorem subjects_X {n k : Nat} {T : Nat → Int32} {τ : XS} (hT : TpOK n T) (h : XR n T k τ) : ∃ b r, Tp_readWord τ 1000001 = some (r, xI τ 702 (nI (k + b))) ∧ InvW (bt n T) k 0 9 b r :=
  words_X hT h (L := 44) (st := fun j => [0, 4, 9, 13, 17, 24, 29, 35, 39, 44].getD j 0) (by decide) (by decide) (by decide) rfl rfl (by decide +kernel) (by decide +kernel)
