/-! the reference's narrowing of words -/
def tb (m : Int32) (i : Nat) : Prop := ((m >>> (nI i &&& 31)) &&& 1) = 1
theorem sh_i : ∀ i, i < 15 → ((nI i &&& 31).toBitVec.smod 32).toNat = i := by decide +kernel
theorem one_i : ∀ i, i < 15 → ∀ j, j < 15 → ((1 : Int32) <<< (nI j &&& 31)).toBitVec.getLsbD i = decide (i = j) := by decide +kernel
theorem bit0 {y : BitVec 32} : y &&& 1#32 = 1#32 ↔ y.getLsbD 0 = true := by
  constructor
  · intro h
    have := congrArg (fun z => z.getLsbD 0) h
    simpa using this
  · intro h
    apply BitVec.eq_of_getLsbD_eq
    intro i hi
    rw [BitVec.getLsbD_and]
    by_cases c : i = 0
    · subst c; rw [h]; rfl
    · have : (1#32).getLsbD i = false := by
        rw [BitVec.getLsbD_one]; simp [c]
      rw [this, Bool.and_false]
theorem tb_iff {m : Int32} {i : Nat} (hi : i < 15) : tb m i ↔ m.toBitVec.getLsbD i = true := by
  unfold tb
  rw [← Int32.toBitVec_inj, Int32.toBitVec_and, Int32.toBitVec_shiftRight, show (1 : Int32).toBitVec = 1#32 from rfl, bit0]
  have e := sh_i i hi
  have e' : BitVec.smod (nI i &&& 31).toBitVec (BitVec.ofNat 32 32) = (nI i &&& 31).toBitVec.smod 32 := rfl
  rw [BitVec.sshiftRight', BitVec.getLsbD_sshiftRight]
  rw [e, Nat.add_zero]
  simp
  omega
theorem tb_or {m : Int32} {i j : Nat} (hi : i < 15) (hj : j < 15) : tb (m ||| (1 <<< (nI j &&& 31))) i ↔ tb m i ∨ i = j := by
  rw [tb_iff hi, tb_iff hi, Int32.toBitVec_or, BitVec.getLsbD_or, one_i i hi j hj]
  simp
theorem tb_0 : ∀ i, i < 15 → ¬ tb 0 i := by unfold tb; decide +kernel
theorem or_0 {m : Int32} : m ||| 0 = m := by
  rw [← Int32.toBitVec_inj, Int32.toBitVec_or]
  exact BitVec.or_zero
/-- the first whole word, when b letters are the most -/
def pickR (σ : MS) (lo : Nat) : Option Nat → Option (Int32 × MS)
  | none => some (nI lo, sI σ 48 1)
  | some r => some (nI r, σ)
theorem pick_M {lo hi b : Nat} {σ : MS} (m : Int32) (hh : hi < 15) (hb : b < 10) (R : Option Nat) (hN : R = none → ∀ i, lo ≤ i → i ≤ hi → ¬ (0 < b ∧ tb m i ∧ (wd i).length = b)) (hS : ∀ r, R = some r → lo ≤ r ∧ r ≤ hi ∧ 0 < b ∧ tb m r ∧ (wd r).length = b ∧ ∀ i, lo ≤ i → i ≤ hi → tb m i → (wd i).length = b → i = r) : ∀ (d i fu : Nat), i + d = hi + 1 → lo ≤ i → (∀ r, R = some r → i ≤ r) → d < fu → M_oneOf_L181_r fu σ (nI lo) (nI hi) m (nI b) (nI i) = pickR σ lo R := by
  intro d
  induction d with
  | zero =>
    intro i fu hi' hl hr hf
    obtain ⟨f, rfl, -⟩ := fuel hf
    cases R with
    | none => rw [M_oneOf_L181_r, if_pos (nI_lt (by omega) (by omega))]; rfl
    | some r => exact absurd (hr r rfl) (by have := (hS r rfl).2.1; omega)
  | succ d ih =>
    intro i fu hi' hl hr hf
    obtain ⟨f, rfl, hf2⟩ := fuel hf
    rw [M_oneOf_L181_r, if_neg (fun g => by have := (nI_ltI (by omega) (by omega)).mp g; omega)]
    have next : (∀ r, R = some r → i ≠ r) → M_oneOf_J218 (M_oneOf_L181_r f) σ (nI lo) (nI hi) m (nI b) (nI i) = pickR σ lo R := by
      intro g
      unfold M_oneOf_J218
      rw [nI_1]
      exact ih (i + 1) f (by omega) (by omega) (fun r e => by have := g r e; have := hr r e; omega) (by omega)
    by_cases c : tb m i
    · rw [if_pos (show ((m >>> (nI i &&& 31)) &&& 1) = 1 from c)]
      by_cases c0 : b = 0
      · subst c0
        rw [if_pos (show nI 0 ≤ 0 from Int32.le_refl _)]
        exact next fun r e => by have := (hS r e).2.2.1; omega
      · rw [if_neg (fun g => c0 (by have := (nI_leI (b := 0) (by omega) (by decide)).mp g; omega)), wd_M (by omega), bind_so, wd_L i (by omega), bind_so]
        obtain ⟨p1, p2⟩ := wd_pos i (by omega)
        by_cases c1 : (wd i).length = b
        · rw [if_pos (by rw [c1])]
          cases R with
          | none => exact absurd ⟨by omega, c, c1⟩ (hN rfl i hl (by omega))
          | some r => rw [(hS r rfl).2.2.2.2.2 i hl (by omega) c c1]; rfl
        · rw [if_neg (fun g => c1 ((nI_eq (by omega) (by omega)).mp g))]
          exact next fun r e g => c1 (by rw [g]; exact (hS r e).2.2.2.2.1)
    · rw [if_neg (show ¬ ((m >>> (nI i &&& 31)) &&& 1) = 1 from c)]
      exact next fun r e g => c (by rw [g]; exact (hS r e).2.2.2.1)
/-- the next letter: those that have it, and on -/
theorem letter_M {a n k lo hi j : Nat} {T : Nat → Int32} {w : Int32} {σ : MS} (hT : TpOK n T) (kk : MS → Int32 → Int32 → Int32 → Int32 → Int32 → Option (Int32 × MS)) (h : MR a n T (k + j) w σ) (hh : hi < 15) (hj : j < 10) (m : Int32) (hm : ∀ i, lo ≤ i → i ≤ hi → (tb m i ↔ j ≤ ml (bt n T) (wd i) k)) : ∀ (d i fu : Nat) (m' : Int32), i + d = hi + 1 → lo ≤ i → d < fu → (∀ x, lo ≤ x → x ≤ hi → (tb m' x ↔ x < i ∧ j + 1 ≤ ml (bt n T) (wd x) k)) → (m' ≠ 0 → ∃ x, lo ≤ x ∧ x ≤ hi ∧ tb m' x) → ∃ m2, (∀ x, lo ≤ x → x ≤ hi → (tb m2 x ↔ j + 1 ≤ ml (bt n T) (wd x) k)) ∧ (m2 ≠ 0 → ∃ x, lo ≤ x ∧ x ≤ hi ∧ tb m2 x) ∧ M_oneOf_L52_r kk fu σ (nI lo) (nI hi) m (nI j) m' (nI i) = (if m2 = 0 then kk (sI σ 47 (nI (k + j))) (nI lo) (nI hi) m (nI j) 0 else kk (sI σ 47 (nI (k + j + 1))) (nI lo) (nI hi) m2 (nI (j + 1)) 1) := by
  have h47 := h.2.2.2.1
  intro d
  induction d with
  | zero =>
    intro i fu m' hi' hl hf hx hz
    obtain ⟨f, rfl, -⟩ := fuel hf
    refine ⟨m', fun x h1 h2 => (hx x h1 h2).trans ⟨fun g => g.2, fun g => ⟨by omega, g⟩⟩, hz, ?_⟩
    rw [M_oneOf_L52_r, if_pos (nI_lt (by omega) (by omega))]
    unfold M_oneOf_J127 M_oneOf_J140 M_oneOf_J153 M_oneOf_J171
    by_cases c : m' = 0
    · rw [if_pos c, if_pos c, if_pos rfl, if_pos rfl, if_pos rfl, h47, show nI j + 0 = nI j from nI_add j 0, show nI (k + j) + 0 = nI (k + j) from nI_add _ 0]
    · rw [if_neg c, if_neg c, if_neg n10, if_neg n10, if_neg n10, h47, nI_1, nI_1]
  | succ d ih =>
    intro i fu m' hi' hl hf hx hz
    obtain ⟨f, rfl, hf⟩ := fuel hf
    rw [M_oneOf_L52_r, if_neg (fun g => by have := (nI_ltI (by omega) (by omega)).mp g; omega)]
    obtain ⟨p1, p2⟩ := wd_pos i (by omega)
    have no : ¬ (j + 1 ≤ ml (bt n T) (wd i) k) → ∃ m2, (∀ x, lo ≤ x → x ≤ hi → (tb m2 x ↔ j + 1 ≤ ml (bt n T) (wd x) k)) ∧ (m2 ≠ 0 → ∃ x, lo ≤ x ∧ x ≤ hi ∧ tb m2 x) ∧ M_oneOf_J107 kk (M_oneOf_L52_r kk f) σ (nI lo) (nI hi) m (nI j) (nI i) m' = (if m2 = 0 then kk (sI σ 47 (nI (k + j))) (nI lo) (nI hi) m (nI j) 0 else kk (sI σ 47 (nI (k + j + 1))) (nI lo) (nI hi) m2 (nI (j + 1)) 1) := by
      intro g
      unfold M_oneOf_J107 M_oneOf_J108
      rw [or_0, nI_1]
      refine ih (i + 1) f m' (by omega) (by omega) (by omega) (fun x h1 h2 => (hx x h1 h2).trans ⟨fun q => ⟨by omega, q.2⟩, fun q => ⟨?_, q.2⟩⟩) hz
      by_cases e : x = i
      · rw [e] at q; exact absurd q.2 g
      · omega
    have ms := @ml_succ (bt n T) (wd i) j k
    by_cases c : tb m i
    · rw [if_pos (show ((m >>> (nI i &&& 31)) &&& 1) = 1 from c), wd_M (by omega), bind_so, wd_L i (by omega), bind_so]
      by_cases c1 : (wd i).length ≤ j
      · rw [if_pos ((nI_leI (by omega) (by omega)).mpr c1)]
        exact no fun g => by have := (ms.mp g).2.1; omega
      · rw [if_neg (fun g => c1 ((nI_leI (by omega) (by omega)).mp g)), bind_so, wd_C i (by omega) j (by omega) (by omega), bind_so, h.byte hT, bind_so]
        by_cases c2 : (wd i).getD j 0 = bt n T (k + j)
        · rw [if_pos c2]
          have yes : j + 1 ≤ ml (bt n T) (wd i) k := ms.mpr ⟨(hm i hl (by omega)).mp c, by omega, c2.symm⟩
          unfold M_oneOf_J108
          rw [nI_1]
          refine ih (i + 1) f (m' ||| (1 <<< (nI i &&& 31))) (by omega) (by omega) (by omega) (fun x h1 h2 => ?_) fun _ => ⟨i, hl, by omega, (tb_or (by omega) (by omega)).mpr (Or.inr rfl)⟩
          rw [tb_or (by omega) (by omega), hx x h1 h2]
          constructor
          · rintro (q | q)
            · exact ⟨by omega, q.2⟩
            · rw [q]; exact ⟨by omega, yes⟩
          · intro q
            by_cases e : x = i
            · exact Or.inr e
            · exact Or.inl ⟨by omega, q.2⟩
        · rw [if_neg c2]
          exact no fun g => c2 (ms.mp g).2.2.symm
    · rw [if_neg (show ¬ ((m >>> (nI i &&& 31)) &&& 1) = 1 from c)]
      exact no fun g => c ((hm i hl (by omega)).mpr (ms.mp g).1)
/-- what the word is: the reference's answer, by what the class has read -/
theorem oneOf_M {a n k lo hi b : Nat} {T : Nat → Int32} {r : Int32} {σ : MS} (hT : TpOK n T) (h : MR a n T k 0 σ) (hh : hi < 15) (hlo : lo ≤ hi) (hW : InvW (bt n T) k lo (hi + 1 - lo) b r) : (r = -1 ∧ ∃ σ', M_oneOf σ (nI lo) (nI hi) = some (nI lo, σ') ∧ Lk σ σ' ∧ MR a n T (k + b) 1 σ') ∨ ∃ i, lo ≤ i ∧ i ≤ hi ∧ r = nI (i - lo) ∧ 0 < b ∧ ∃ σ', M_oneOf σ (nI lo) (nI hi) = some (nI i, σ') ∧ Lk σ σ' ∧ MR a n T (k + b) 0 σ' := by
  obtain ⟨w1, w2, w3⟩ := hW
  have W1 : ∀ i, lo ≤ i → i ≤ hi → ml (bt n T) (wd i) k ≤ b := fun i h1 h2 => by have := w1 (i - lo) (by omega); rwa [show lo + (i - lo) = i by omega] at this
  have W2 : b = 0 ∨ ∃ i, lo ≤ i ∧ i ≤ hi ∧ ml (bt n T) (wd i) k = b := w2.imp_right fun ⟨j, h1, h2⟩ => ⟨lo + j, by omega, by omega, h2⟩
  have b7 : b < 7 := by
    rcases W2 with e | ⟨i, h1, h2, e⟩
    · omega
    · have := wd_pos i (by omega); have := @ml_le (bt n T) (wd i) k; omega
  -- the letters
  have loop : ∀ (d j fu : Nat) (m : Int32) (σ1 : MS), j + d = b → d + 1 < fu → Lk σ σ1 → MR a n T (k + j) 0 σ1 → (∀ i, lo ≤ i → i ≤ hi → (tb m i ↔ j ≤ ml (bt n T) (wd i) k)) → ∃ m2 σ2, Lk σ σ2 ∧ MR a n T (k + b) 0 σ2 ∧ (∀ i, lo ≤ i → i ≤ hi → (tb m2 i ↔ b ≤ ml (bt n T) (wd i) k)) ∧ M_oneOf_L41_r fu σ1 (nI lo) (nI hi) m (nI j) 1 = M_oneOf_L181 100000 σ2 (nI lo) (nI hi) m2 (nI b) (nI lo) := by
    intro d
    induction d with
    | zero =>
      intro j fu m σ1 hj hf k1 k2 k3
      obtain ⟨f, rfl, hf2⟩ := fuel hf
      obtain ⟨m2, x1, x2, x3⟩ := letter_M (lo := lo) hT (M_oneOf_L41_r f) k2 hh (by omega) m k3 (hi + 1 - lo) lo 100000 0 (by omega) (Nat.le_refl _) (by omega) (fun x _ h2 => ⟨fun g => absurd g (tb_0 x (by omega)), fun g => by omega⟩) (fun g => absurd rfl g)
      have z : m2 = 0 := by
        by_cases z : m2 = 0
        · exact z
        · obtain ⟨x, h1, h2, h3⟩ := x2 z
          have := (x1 x h1 h2).mp h3; have := W1 x h1 h2; omega
      rw [if_pos z] at x3
      rw [M_oneOf_L41_r, if_neg n10]
      unfold M_oneOf_L52
      have jb : j = b := by omega
      subst jb
      obtain ⟨f', rfl, -⟩ := fuel (show 0 < f by omega)
      refine ⟨m, sI σ1 47 (nI (k + j)), k1.trans (Lk.i (by simp)), ?_, k3, ?_⟩
      · obtain ⟨h1, h2, h3, h4, h5, h6, h7⟩ := k2
        exact ⟨h1, h2, (sI_ne (by decide)).trans h3, sI_get, (sI_ne (by decide)).trans h5, h6, h7⟩
      · rw [show nI lo = nI lo from rfl]
        refine x3.trans ?_
        rw [M_oneOf_L41_r, if_pos rfl]
    | succ d ih =>
      intro j fu m σ1 hj hf k1 k2 k3
      obtain ⟨f, rfl, hf2⟩ := fuel hf
      obtain ⟨m2, x1, x2, x3⟩ := letter_M (lo := lo) hT (M_oneOf_L41_r f) k2 hh (by omega) m k3 (hi + 1 - lo) lo 100000 0 (by omega) (Nat.le_refl _) (by omega) (fun x _ h2 => ⟨fun g => absurd g (tb_0 x (by omega)), fun g => by omega⟩) (fun g => absurd rfl g)
      obtain ⟨i, i1, i2, i3⟩ : ∃ i, lo ≤ i ∧ i ≤ hi ∧ ml (bt n T) (wd i) k = b := W2.resolve_left (by omega)
      have z : m2 ≠ 0 := fun e => tb_0 i (by omega) (by rw [← e]; exact (x1 i i1 i2).mpr (by omega))
      rw [if_neg z] at x3
      have kn : k + j < n := bt_lt ((@ml_succ (bt n T) (wd i) j k).mp (by omega)).2.2 (by
        obtain ⟨-, q, -⟩ := (@ml_succ (bt n T) (wd i) j k).mp (by omega)
        refine wd_m1 i (by omega) _ ?_
        rw [List.getD_eq_getElem?_getD, List.getElem?_eq_getElem q]
        exact List.getElem_mem _)
      obtain ⟨m3, σ3, y1, y2, y3, y4⟩ := ih (j + 1) f m2 (sI σ1 47 (nI (k + j + 1))) (by omega) (by omega) (k1.trans (Lk.i (by simp))) (by
        have := k2.go kn
        rw [k2.2.2.2.1, nI_1] at this
        exact this) x1
      refine ⟨m3, σ3, y1, y2, y3, ?_⟩
      rw [M_oneOf_L41_r, if_neg n10]
      unfold M_oneOf_L52
      exact x3.trans y4
  -- all words at first
  have all : ∀ (d i fu : Nat) (m : Int32), i + d = hi + 1 → lo ≤ i → d < fu → (∀ x, lo ≤ x → x ≤ hi → (tb m x ↔ x < i)) → ∃ m2, (∀ x, lo ≤ x → x ≤ hi → tb m2 x) ∧ M_oneOf_L5_r fu σ (nI lo) (nI hi) m (nI i) = M_oneOf_J39 σ (nI lo) (nI hi) m2 0 1 := by
    intro d
    induction d with
    | zero =>
      intro i fu m hi' hl hf hx
      obtain ⟨f, rfl, -⟩ := fuel hf
      exact ⟨m, fun x h1 h2 => (hx x h1 h2).mpr (by omega), by rw [M_oneOf_L5_r, if_pos (nI_lt (by omega) (by omega)), if_pos h.2.2.2.2.1]⟩
    | succ d ih =>
      intro i fu m hi' hl hf hx
      obtain ⟨f, rfl, hf⟩ := fuel hf
      rw [M_oneOf_L5_r, if_neg (fun g => by have := (nI_ltI (by omega) (by omega)).mp g; omega), nI_1]
      refine ih (i + 1) f _ (by omega) (by omega) (by omega) fun x h1 h2 => ?_
      rw [tb_or (by omega) (by omega), hx x h1 h2]
      omega
  obtain ⟨m0, a1, a2⟩ := all (hi + 1 - lo) lo 100000 0 (by omega) (Nat.le_refl _) (by omega) (fun x _ h2 => ⟨fun g => absurd g (tb_0 x (by omega)), fun g => by omega⟩)
  obtain ⟨m2, σ2, b1, b2, b3, b4⟩ := loop b 0 100000 m0 σ (by omega) (by omega) Lk.rfl h (fun i h1 h2 => ⟨fun _ => Nat.zero_le _, fun _ => a1 i h1 h2⟩)
  have e0 : M_oneOf σ (nI lo) (nI hi) = M_oneOf_L181 100000 σ2 (nI lo) (nI hi) m2 (nI b) (nI lo) := by
    unfold M_oneOf M_oneOf_L5
    rw [a2]
    unfold M_oneOf_J39 M_oneOf_L41
    exact b4
  rcases w3 with ⟨rfl, w3⟩ | ⟨j, j1, rfl, j2, j3⟩
  · refine Or.inl ⟨rfl, sI σ2 48 1, ?_, b1.trans (Lk.i (by simp)), b2.err⟩
    rw [e0]
    refine pick_M m2 hh (by omega) none (fun _ i h1 h2 g => ?_) (fun r e => by cases e) (hi + 1 - lo) lo 100000 (by omega) (Nat.le_refl _) (fun r e => by cases e) (by omega)
    have := (b3 i h1 h2).mp g.2.1
    have := W1 i h1 h2
    exact w3 (i - lo) (by omega) (by rw [show lo + (i - lo) = i by omega]; exact ⟨by omega, g.2.2⟩)
  · have := wd_pos (lo + j) (by omega)
    refine Or.inr ⟨lo + j, by omega, by omega, by rw [show lo + j - lo = j by omega], by omega, σ2, ?_, b1, b2⟩
    rw [e0]
    have this2 : ∀ i, lo ≤ i → i ≤ hi → tb m2 i → (wd i).length = b → i = lo + j := by
      intro i h1 h2 g1 g2
      have := (b3 i h1 h2).mp g1
      have := W1 i h1 h2
      exact wd_inj i (by omega) (lo + j) (by omega) (ml_uniq (f := bt n T) (k := k) (by omega) (by omega) (by omega))
    exact pick_M m2 hh (by omega) (some (lo + j)) (fun e => by cases e) (fun r e => by cases e; exact ⟨by omega, by omega, by omega, (b3 _ (by omega) (by omega)).mpr (by omega), j3, this2⟩) (hi + 1 - lo) lo 100000 (by omega) (Nat.le_refl _) (fun r e => by cases e; omega) (by omega)
theorem InvW.uniq {f : Nat → Int32} {k lo i b b' : Nat} {r r' : Int32} (hl : lo + i ≤ 15) (h : InvW f k lo i b r) (g : InvW f k lo i b' r') : b = b' ∧ r = r' := by
  obtain ⟨h1, h2, h3⟩ := h
  obtain ⟨g1, g2, g3⟩ := g
  have e : b = b' := by
    have a1 : b ≤ b' := by
      rcases h2 with e | ⟨j, q1, q2⟩
      · omega
      · have := g1 j q1; omega
    have a2 : b' ≤ b := by
      rcases g2 with e | ⟨j, q1, q2⟩
      · omega
      · have := h1 j q1; omega
    omega
  subst e
  refine ⟨rfl, ?_⟩
  rcases h3 with ⟨rfl, h3⟩ | ⟨j, j1, rfl, j2, j3⟩
  · rcases g3 with ⟨rfl, g3⟩ | ⟨j, j1, rfl, j2, j3⟩
    · rfl
    · exact absurd ⟨j2, j3⟩ (h3 j j1)
  · rcases g3 with ⟨rfl, g3⟩ | ⟨j', i1, rfl, i2, i3⟩
    · exact absurd ⟨j2, j3⟩ (g3 j j1)
    · have := wd_inj (lo + j) (by omega) (lo + j') (by omega) (ml_uniq (f := f) (k := k) (by omega) (by omega) (by omega))
      congr 1; omega
theorem ml_n {n : Nat} {T : Nat → Int32} {w : List Int32} {k : Nat} (hk : k ≤ n) (hw : ∀ c, c ∈ w → c ≠ -1) : k + ml (bt n T) w k ≤ n := by
  by_cases z : ml (bt n T) w k = 0
  · omega
  · obtain ⟨-, h2, h3⟩ := (@ml_succ (bt n T) w (ml (bt n T) w k - 1) k).mp (by omega)
    have := bt_lt h3 (hw _ (by
      rw [List.getD_eq_getElem?_getD, List.getElem?_eq_getElem h2]
      exact List.getElem_mem _))
    omega
theorem InvW.le {n : Nat} {T : Nat → Int32} {k lo i b : Nat} {r : Int32} (h : InvW (bt n T) k lo i b r) (hk : k ≤ n) (hl : lo + i ≤ 15 := by decide) : k + b ≤ n := by
  rcases h.2.1 with e | ⟨j, q1, q2⟩
  · omega
  · have := ml_n (T := T) hk (wd_m1 (lo + j) (by omega)); omega
