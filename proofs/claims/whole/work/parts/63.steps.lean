/-! sets of steps -/
set_option maxRecDepth 8000 in
theorem bit16 : ∀ S, S < 16 → ∀ k, k < 4 → ((nI S >>> (nI k &&& 31)) &&& 1) = if S.testBit k = true then 1 else 0 := by decide +kernel
set_option maxRecDepth 8000 in
theorem and16 : ∀ m, m < 16 → ∀ s, s < 4 → ((nI m &&& (1 <<< (nI s &&& 31))) = 0 ↔ m.testBit s = false) := by decide +kernel
theorem many16 (σ : MS) (f : Nat) {S : Nat} (h : S < 16) : M_many_L4_r σ (f + 5) (nI S) 0 0 = some (nI (cnt10 S)) := by
  rcases (show S = 0 ∨ S = 1 ∨ S = 2 ∨ S = 3 ∨ S = 4 ∨ S = 5 ∨ S = 6 ∨ S = 7 ∨ S = 8 ∨ S = 9 ∨ S = 10 ∨ S = 11 ∨ S = 12 ∨ S = 13 ∨ S = 14 ∨ S = 15 by omega) with rfl | rfl | rfl | rfl | rfl | rfl | rfl | rfl | rfl | rfl | rfl | rfl | rfl | rfl | rfl | rfl <;> rfl
theorem M_many_eq (σ : MS) {S : Nat} (h : S < 16) : M_many σ (nI S) = some (nI (cnt10 S)) := by
  unfold M_many M_many_L4
  rw [show (100000 : Nat) = 99995 + 5 from rfl, many16 σ 99995 h]
/-- the mask of subjects met, and whether none is met twice -/
def mkF (sn : Nat → Nat) (S : Nat) : Nat → Nat
  | 0 => 0
  | k + 1 => if S.testBit k = true then mkF sn S k ||| 2 ^ sn k else mkF sn S k
def okF (sn : Nat → Nat) (S : Nat) : Nat → Bool
  | 0 => true
  | k + 1 => okF sn S k && !(S.testBit k && (mkF sn S k).testBit (sn k))
theorem mkF_lt {sn : Nat → Nat} {S n : Nat} (h : ∀ k, k < n → sn k < 4) : ∀ k, k ≤ n → mkF sn S k < 16 := by
  intro k
  induction k with
  | zero => intro _; exact Nat.zero_lt_succ _
  | succ k ih =>
    intro hk
    rw [mkF]
    have i := ih (by omega)
    have p : 2 ^ sn k < 16 := by
      have := h k (by omega)
      rcases (show sn k = 0 ∨ sn k = 1 ∨ sn k = 2 ∨ sn k = 3 by omega) with e | e | e | e <;> rw [e] <;> decide
    split
    · exact Nat.or_lt_two_pow (n := 4) i p
    · exact i
theorem mkF_bit {sn : Nat → Nat} {S : Nat} : ∀ k j, j < k → S.testBit j = true → (mkF sn S k).testBit (sn j) = true := by
  intro k
  induction k with
  | zero => intro j h; exact absurd h (Nat.not_lt_zero _)
  | succ k ih =>
    intro j hj hb
    rw [mkF]
    by_cases c : j = k
    · subst c
      rw [if_pos hb, Nat.testBit_or, Nat.testBit_two_pow]
      simp
    · have := ih j (by omega) hb
      split
      · rw [Nat.testBit_or, this]; rfl
      · exact this
theorem okF_mono {sn : Nat → Nat} {S i : Nat} (h : okF sn S i = false) : ∀ m, okF sn S (i + m) = false := by
  intro m
  induction m with
  | zero => exact h
  | succ m ih => rw [← Nat.add_assoc, okF, ih]; rfl
theorem okF_one {sn : Nat → Nat} {S n : Nat} (h : okF sn S n = true) : ∀ j k, j < n → k < n → S.testBit j = true → S.testBit k = true → sn j = sn k → j = k := by
  have lt : ∀ j k, j < k → k < n → S.testBit j = true → S.testBit k = true → sn j = sn k → False := by
    intro j k hjk hkn bj bk e
    have hk : okF sn S (k + 1) = true := by
      cases q : okF sn S (k + 1) with
      | true => rfl
      | false =>
        have := okF_mono q (n - (k + 1))
        rw [show k + 1 + (n - (k + 1)) = n by omega, h] at this
        exact absurd this (by decide)
    rw [okF, bk, ← e, mkF_bit k j hjk bj] at hk
    simp at hk
  intro j k hj hk bj bk e
  apply Classical.byContradiction
  intro c
  rcases Nat.lt_or_gt_of_ne c with q | q
  · exact lt j k q hk bj bk e
  · exact lt k j q hj bk bj e.symm
/-- the hundredths of a subject by the first k steps of a set -/
def hsF (sub by' : Nat → Int32) (S : Nat) (s : Int32) : Nat → Int32
  | 0 => 100
  | k + 1 => if S.testBit k = true ∧ sub k = s then by' k else hsF sub by' S s k
theorem hsF_none {sub by' : Nat → Int32} {S : Nat} {s : Int32} : ∀ n, (∀ k, k < n → ¬ (S.testBit k = true ∧ sub k = s)) → hsF sub by' S s n = 100 := by
  intro n
  induction n with
  | zero => intro _; rfl
  | succ n ih => intro h; rw [hsF, if_neg (h n (by omega)), ih fun k hk => h k (by omega)]
theorem hsF_at {sub by' : Nat → Int32} {S : Nat} {s : Int32} {i : Nat} (hi : S.testBit i = true ∧ sub i = s) : ∀ n, i < n → (∀ k, k < n → S.testBit k = true ∧ sub k = s → k = i) → hsF sub by' S s n = by' i := by
  intro n
  induction n with
  | zero => intro h; exact absurd h (Nat.not_lt_zero _)
  | succ n ih =>
    intro h hu
    rw [hsF]
    by_cases c : S.testBit n = true ∧ sub n = s
    · rw [if_pos c, hu n (by omega) c]
    · rw [if_neg c]
      refine ih ?_ fun k hk => hu k (by omega)
      rcases Nat.lt_or_eq_of_le (Nat.le_of_lt_succ h) with q | rfl
      · exact q
      · exact absurd hi c
theorem hsF_R {sub by' : Nat → Int32} {S : Nat} {s : Int32} : ∀ n, (∀ k, k < n → InR (by' k) 0 300) → InR (hsF sub by' S s n) 0 300 := by
  intro n
  induction n with
  | zero =>
    intro _
    show InR 100 0 300
    exact ⟨by decide, by decide⟩
  | succ n ih =>
    intro h
    rw [hsF]
    split
    · exact h n (by omega)
    · exact ih fun k hk => h k (by omega)
section STEPS
variable {σ : MS} {τ : XS} {ns : Nat} {sn : Nat → Nat}
/-- the steps as both have them -/
def Sts (σ : MS) (τ : XS) (ns : Nat) (sn : Nat → Nat) : Prop := ns ≤ 4 ∧ σ.1 39 = nI ns ∧ τ.1 905 = nI ns ∧ τ.2.1 906 = σ.2.1 40 ∧ τ.2.1 907 = σ.2.1 41 ∧ ∀ k, k < ns → (sn k = 0 ∨ sn k = 1 ∨ sn k = 3) ∧ σ.2.1 40 k = nI (sn k) ∧ InR (σ.2.1 41 k) 0 300
theorem isSet_M (h : Sts σ τ ns sn) {S : Nat} (hS : S < 16) : M_isSet σ (nI S) = some (if okF sn S ns = true then 1 else 0) := by
  obtain ⟨h4, h39, -, -, -, hk⟩ := h
  have key : ∀ (m i fu : Nat), i + m = ns → m < fu → okF sn S i = true → M_isSet_L4_r σ fu (nI S) (nI (mkF sn S i)) (nI i) = some (if okF sn S ns = true then 1 else 0) := by
    intro m
    induction m with
    | zero =>
      intro i fu hi hf ho
      obtain ⟨f, rfl, -⟩ := fuel hf
      have hi : i = ns := by omega
      subst hi
      rw [M_isSet_L4_r, h39, if_pos (Int32.le_refl _), if_pos ho]
    | succ m ih =>
      intro i fu hi hf ho
      obtain ⟨f, rfl, hf2⟩ := fuel hf
      have nx := ih (i + 1) f (by omega) (by omega)
      obtain ⟨s3, es, -⟩ := hk i (by omega)
      have ml := mkF_lt (sn := sn) (S := S) (n := ns) (fun k hk' => by have := (hk k hk').1; omega) i (by omega)
      rw [M_isSet_L4_r, h39, if_neg (nI_ge (by omega) (by omega)), bit16 S hS i (by omega), rd_nI (by omega) (by decide), rd_nI (by omega) (by decide), es, bit16 _ ml _ (by omega), or10 _ (by omega) _ (by omega)]
      unfold M_isSet_J48
      rw [nI_1]
      rw [okF, mkF] at nx
      by_cases b1 : S.testBit i = true
      · rw [if_pos b1, if_pos (show (1 : Int32) = 1 from rfl)]
        rw [if_pos b1, b1] at nx
        by_cases b2 : (mkF sn S i).testBit (sn i) = true
        · rw [if_pos b2, if_pos (show (1 : Int32) = 1 from rfl)]
          have := okF_mono (sn := sn) (S := S) (i := i + 1) (by rw [okF, b1, b2]; simp) (ns - (i + 1))
          rw [show i + 1 + (ns - (i + 1)) = ns by omega] at this
          rw [this]
          rfl
        · rw [if_neg b2, if_neg (by decide)]
          have b2' : (mkF sn S i).testBit (sn i) = false := by cases e : (mkF sn S i).testBit (sn i); rfl; exact absurd e b2
          rw [ho, b2'] at nx
          exact nx (by rfl)
      · have b1' : S.testBit i = false := by cases e : S.testBit i; rfl; exact absurd e b1
        rw [if_neg b1, if_neg (show ¬ (0 : Int32) = 1 by decide)]
        rw [if_neg b1, ho, b1'] at nx
        exact nx (by rfl)
  exact key ns 0 100000 (by omega) (by omega) rfl
theorem isSet_X (h : Sts σ τ ns sn) {S : Nat} (hS : S < 16) : Tr_hasOneEach τ (nI S) = some (if okF sn S ns = true then 1 else 0) := by
  obtain ⟨h4, -, h905, h906, -, hk⟩ := h
  have key : ∀ (m i fu : Nat), i + m = ns → m < fu → okF sn S i = true → Tr_hasOneEach_L4_r τ fu (nI S) (nI (mkF sn S i)) (nI i) = some (if okF sn S ns = true then 1 else 0) := by
    intro m
    induction m with
    | zero =>
      intro i fu hi hf ho
      obtain ⟨f, rfl, -⟩ := fuel hf
      have hi : i = ns := by omega
      subst hi
      rw [Tr_hasOneEach_L4_r, h905, if_pos (Int32.le_refl _), if_pos ho]
    | succ m ih =>
      intro i fu hi hf ho
      obtain ⟨f, rfl, hf2⟩ := fuel hf
      have nx := ih (i + 1) f (by omega) (by omega)
      obtain ⟨s3, es, -⟩ := hk i (by omega)
      have ml := mkF_lt (sn := sn) (S := S) (n := ns) (fun k hk' => by have := (hk k hk').1; omega) i (by omega)
      rw [Tr_hasOneEach_L4_r, h905, if_neg (nI_ge (by omega) (by omega)), bit16 S hS i (by omega), rd_nI (by omega) (by decide), h906, es, or10 _ (by omega) _ (by omega)]
      unfold Tr_hasOneEach_J47
      rw [nI_1]
      rw [okF, mkF] at nx
      by_cases b1 : S.testBit i = true
      · rw [if_pos b1, if_neg n10]
        rw [if_pos b1, b1] at nx
        by_cases b2 : (mkF sn S i).testBit (sn i) = true
        · rw [if_neg fun e => by rw [(and16 _ ml _ (by omega)).mp e] at b2; exact absurd b2 (by decide)]
          have := okF_mono (sn := sn) (S := S) (i := i + 1) (by rw [okF, b1, b2]; simp) (ns - (i + 1))
          rw [show i + 1 + (ns - (i + 1)) = ns by omega] at this
          rw [this]
          rfl
        · have b2' : (mkF sn S i).testBit (sn i) = false := by cases e : (mkF sn S i).testBit (sn i); rfl; exact absurd e b2
          rw [if_pos ((and16 _ ml _ (by omega)).mpr b2')]
          rw [ho, b2'] at nx
          exact nx (by rfl)
      · have b1' : S.testBit i = false := by cases e : S.testBit i; rfl; exact absurd e b1
        rw [if_neg b1, if_pos rfl]
        rw [if_neg b1, ho, b1'] at nx
        exact nx (by rfl)
  exact key ns 0 100000 (by omega) (by omega) rfl
theorem sA51 {σ : MS} {f g : Nat → Int32} : sA (sA σ 51 f) 51 g = sA σ 51 g := sA_same
theorem walks_M (h : Sts σ τ ns sn) {S : Nat} (hS : S < 16) : ∃ g, M_walks σ (nI S) = some ((), sA σ 51 g) ∧ ∀ s, s < 4 → g s = hsF (σ.2.1 40) (σ.2.1 41) S (nI s) ns := by
  obtain ⟨h4, h39, -, -, -, hk⟩ := h
  have l2 : ∀ (m i fu : Nat) (g : Nat → Int32), i + m = ns → m < fu → (∀ s, s < 4 → g s = hsF (σ.2.1 40) (σ.2.1 41) S (nI s) i) → ∃ g', M_walks_L23_r fu (sA σ 51 g) (nI S) (nI i) = some ((), sA σ 51 g') ∧ ∀ s, s < 4 → g' s = hsF (σ.2.1 40) (σ.2.1 41) S (nI s) ns := by
    intro m
    induction m with
    | zero =>
      intro i fu g hi hf hg
      obtain ⟨f, rfl, -⟩ := fuel hf
      have hi : i = ns := by omega
      subst hi
      exact ⟨g, by rw [M_walks_L23_r, sA_1, h39, if_pos (Int32.le_refl _)], hg⟩
    | succ m ih =>
      intro i fu g hi hf hg
      obtain ⟨f, rfl, hf2⟩ := fuel hf
      have nx := fun g hg => ih (i + 1) f g (by omega) (by omega) hg
      obtain ⟨s3, es, -⟩ := hk i (by omega)
      rw [M_walks_L23_r, sA_1, h39, if_neg (nI_ge (by omega) (by omega)), bit16 S hS i (by omega)]
      unfold M_walks_J57
      rw [nI_1]
      by_cases b1 : S.testBit i = true
      · rw [if_pos b1, if_pos (show (1 : Int32) = 1 from rfl), rd_nI (by omega) (by decide), rd_nI (by omega) (by decide), sA_ne (show (40 : Nat) ≠ 51 by decide), sA_ne (show (41 : Nat) ≠ 51 by decide), es, wr_nI (by omega) (by decide), cl_nI (by omega), sA_get, sA51]
        refine nx _ fun s hs => ?_
        rw [hsF]
        by_cases c : s = sn i
        · rw [if_pos ⟨b1, by rw [es, c]⟩, c, pk_us]
        · rw [if_neg fun e => c ((nI_eq (by omega) (by omega)).mp (e.2.symm.trans es)), pk_un c]
          exact hg s hs
      · rw [if_neg b1, if_neg (show ¬ (0 : Int32) = 1 by decide)]
        refine nx g fun s hs => ?_
        rw [hsF, if_neg fun e => b1 e.1]
        exact hg s hs
  have l1 : ∀ (m i fu : Nat) (g : Nat → Int32), i + m = 4 → m < fu → (∀ s, s < i → g s = 100) → ∃ g', M_walks_L2_r fu (sA σ 51 g) (nI S) (nI i) = some ((), sA σ 51 g') ∧ ∀ s, s < 4 → g' s = hsF (σ.2.1 40) (σ.2.1 41) S (nI s) ns := by
    intro m
    induction m with
    | zero =>
      intro i fu g hi hf hg
      obtain ⟨f, rfl, -⟩ := fuel hf
      have hi : i = 4 := by omega
      subst hi
      obtain ⟨g', a1, a2⟩ := l2 ns 0 100000 g (by omega) (by omega) fun s hs => hg s hs
      exact ⟨g', by rw [M_walks_L2_r, if_pos (by decide)]; exact a1, a2⟩
    | succ m ih =>
      intro i fu g hi hf hg
      obtain ⟨f, rfl, hf2⟩ := fuel hf
      rw [M_walks_L2_r, if_neg (by rw [show (4 : Int32) = nI 4 from rfl, nI_leI (by omega) (by omega)]; omega), wr_nI (by omega) (by decide), cl_nI (by omega), sA_get, sA51, nI_1]
      refine ih (i + 1) f _ (by omega) (by omega) fun s hs => ?_
      by_cases c : s = i
      · rw [c, pk_us]
      · rw [pk_un c]; exact hg s (by omega)
  obtain ⟨g', a1, a2⟩ := l1 4 0 100000 (σ.2.1 51) (by omega) (by omega) fun s hs => absurd hs (Nat.not_lt_zero _)
  rw [sA_self] at a1
  exact ⟨g', a1, a2⟩
theorem stepped_X (h : Sts σ τ ns sn) {S : Nat} (hS : S < 16) (ho : okF sn S ns = true) (s : Int32) {v : Int32} (hv : InR v 0 9999) : Tr_stepped τ (nI S) s v = some ((v * hsF (σ.2.1 40) (σ.2.1 41) S s ns) / 100) := by
  obtain ⟨h4, -, h905, h906, h907, hk⟩ := h
  have uni : ∀ i, i < ns → S.testBit i = true ∧ σ.2.1 40 i = s → ∀ k, k < ns → S.testBit k = true ∧ σ.2.1 40 k = s → k = i := by
    intro i hi a k hk' b
    refine okF_one ho k i hk' hi b.1 a.1 ?_
    have e := (hk k hk').2.1.symm.trans (b.2.trans (a.2.symm.trans (hk i hi).2.1))
    exact (nI_eq (by have := (hk k hk').1; omega) (by have := (hk i hi).1; omega)).mp e
  have key : ∀ (m i fu : Nat), i + m = ns → m < fu → (∀ k, k < i → ¬ (S.testBit k = true ∧ σ.2.1 40 k = s)) → Tr_stepped_L9_r τ fu (nI S) s v (nI i) = some ((v * hsF (σ.2.1 40) (σ.2.1 41) S s ns) / 100) := by
    intro m
    induction m with
    | zero =>
      intro i fu hi hf hn
      obtain ⟨f, rfl, -⟩ := fuel hf
      have hi : i = ns := by omega
      subst hi
      rw [Tr_stepped_L9_r, h905, if_pos (Int32.le_refl _), hsF_none i hn, step1 hv]
    | succ m ih =>
      intro i fu hi hf hn
      obtain ⟨f, rfl, hf2⟩ := fuel hf
      have nx := ih (i + 1) f (by omega) (by omega)
      rw [Tr_stepped_L9_r, h905, if_neg (nI_ge (by omega) (by omega)), bit16 S hS i (by omega), rd_nI (by omega) (by decide), rd_nI (by omega) (by decide), h906, h907]
      unfold Tr_stepped_J51
      rw [nI_1]
      have ext : ¬ (S.testBit i = true ∧ σ.2.1 40 i = s) → ∀ k, k < i + 1 → ¬ (S.testBit k = true ∧ σ.2.1 40 k = s) := fun q k hk' => by
        rcases Nat.lt_or_eq_of_le (Nat.le_of_lt_succ hk') with g | rfl
        · exact hn k g
        · exact q
      by_cases b1 : S.testBit i = true
      · rw [if_pos b1, if_neg n10]
        by_cases b2 : σ.2.1 40 i = s
        · rw [if_pos b2, hsF_at ⟨b1, b2⟩ ns (by omega) (uni i (by omega) ⟨b1, b2⟩)]
        · rw [if_neg b2]
          exact nx (ext fun e => b2 e.2)
      · rw [if_neg b1, if_pos rfl]
        exact nx (ext fun e => b1 e.1)
  unfold Tr_stepped Tr_stepped_L9
  by_cases c : nI S = 0
  · rw [if_pos c]
    have e : S = 0 := (nI_eq (by omega) (by decide)).mp c
    subst e
    rw [hsF_none ns fun k _ q => by have := q.1; simp at this, step1 hv]
  · rw [if_neg c]
    exact key ns 0 100000 (by omega) (by omega) fun k hk' => absurd hk' (Nat.not_lt_zero _)
theorem mulH {v x : Int32} (hv : InR v 0 9999) (hx : InR x 0 300) : ((v * x) / 100).toInt = v.toInt * x.toInt / 100 ∧ InR ((v * x) / 100) 0 29997 := by
  obtain ⟨v0, v1⟩ := hv
  obtain ⟨x0, x1⟩ := hx
  have b1 : 0 ≤ v.toInt * x.toInt := Int.mul_nonneg v0 x0
  have b2 : v.toInt * x.toInt ≤ v.toInt * 300 := Int.mul_le_mul_of_nonneg_left x1 v0
  have e : (v * x).toInt = v.toInt * x.toInt := by
    rw [Int32.toInt_mul, show (2 : Nat) ^ 32 = 4294967296 from rfl]
    exact Int.bmod_eq_of_le (by omega) (by omega)
  have e2 : ((v * x) / 100).toInt = v.toInt * x.toInt / 100 := by
    rw [Int32.toInt_div_of_ne_right _ _ (by decide), e, show (100 : Int32).toInt = 100 from rfl]
    exact Int.tdiv_eq_ediv_of_nonneg b1
  exact ⟨e2, by unfold InR; rw [e2]; omega⟩
theorem mulH_mono {v w x : Int32} (hv : InR v 0 9999) (hw : InR w 0 9999) (hx : InR x 0 300) (h : v ≤ w) : (v * x) / 100 ≤ (w * x) / 100 := by
  rw [i32_le] at h ⊢
  rw [(mulH hv hx).1, (mulH hw hx).1]
  exact Int.ediv_le_ediv (by decide) (Int.mul_le_mul_of_nonneg_right h hx.1)
/-- the steps of a set, laid on both sides -/
theorem stepV_of (h : Sts σ τ ns sn) {S : Nat} (hS : S < 16) (ho : okF sn S ns = true) {g : Nat → Int32} (hg : ∀ s, s < 4 → g s = hsF (σ.2.1 40) (σ.2.1 41) S (nI s) ns) : StepV (sA σ 51 g) (xI τ 207 (nI S)) := by
  intro s v hv
  have eX : Tr_stepped (xI τ 207 (nI S)) = Tr_stepped τ := Tr_stepped_congr rfl rfl rfl
  rw [xI_get, eX, stepped_X h hS ho s hv]
  have hR := hsF_R (sub := σ.2.1 40) (S := S) (s := s) ns fun k hk => (h.2.2.2.2.2 k hk).2.2
  constructor
  · intro hs
    refine ⟨_, ?_, rfl, (mulH hv hR).2⟩
    obtain ⟨k, hk, rfl⟩ : ∃ k : Nat, k < 4 ∧ s = nI k := by
      rcases hs with e | e | e
      · exact ⟨0, by decide, e⟩
      · exact ⟨1, by decide, e⟩
      · exact ⟨3, by decide, e⟩
    unfold M_stepped
    rw [rd_nI hk (by decide), sA_get, hg k hk]
  · intro hs
    rw [hsF_none ns fun k hk q => hs ?_, step1 hv]
    obtain ⟨s3, es, -⟩ := h.2.2.2.2.2 k hk
    rw [← q.2, es]
    rcases s3 with e | e | e
    · rw [e]; exact Or.inl rfl
    · rw [e]; exact Or.inr (Or.inl rfl)
    · rw [e]; exact Or.inr (Or.inr rfl)
end STEPS
