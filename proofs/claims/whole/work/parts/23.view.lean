/-! the view "by e": what stands, who dies when; the reference's looks, the class's readBook -/
theorem xA_same {τ : XS} {j : Nat} {f g : Nat → Int32} : xA (xA τ j f) j g = xA τ j g := by unfold xA; simp only [va_up_up]
theorem va_up_comm {α : Type} {f : Nat → α} {j k : Nat} {a b : α} (h : j ≠ k) : va_up (va_up f j a) k b = va_up (va_up f k b) j a := by
  funext i; unfold va_up
  by_cases h1 : i = k
  · subst h1; rw [if_pos rfl, if_neg (Ne.symm h), if_pos rfl]
  · rw [if_neg h1]
    by_cases h2 : i = j
    · rw [if_pos h2, if_pos h2]
    · rw [if_neg h2, if_neg h2, if_neg h1]
theorem xA_comm {τ : XS} {j k : Nat} {f g : Nat → Int32} (h : j ≠ k) : xA (xA τ j f) k g = xA (xA τ k g) j f := by unfold xA; simp only [va_up_comm h]
theorem sA_same {σ : MS} {j : Nat} {f g : Nat → Int32} : sA (sA σ j f) j g = sA σ j g := by unfold sA; simp only [va_up_up]
theorem sA_comm {σ : MS} {j k : Nat} {f g : Nat → Int32} (h : j ≠ k) : sA (sA σ j f) k g = sA (sA σ k g) j f := by unfold sA; simp only [va_up_comm h]
theorem xA_get {τ : XS} {j : Nat} {f : Nat → Int32} : (xA τ j f).2.1 j = f := by unfold xA; exact va_up_self _ _ _
theorem xA_ne {τ : XS} {j k : Nat} {f : Nat → Int32} (h : k ≠ j) : (xA τ j f).2.1 k = τ.2.1 k := by unfold xA; exact va_up_ne _ _ h
theorem xA_1 {τ : XS} {j : Nat} {f : Nat → Int32} : (xA τ j f).1 = τ.1 := rfl
theorem sA_get {σ : MS} {j : Nat} {f : Nat → Int32} : (sA σ j f).2.1 j = f := by unfold sA; exact va_up_self _ _ _
theorem sA_ne {σ : MS} {j k : Nat} {f : Nat → Int32} (h : k ≠ j) : (sA σ j f).2.1 k = σ.2.1 k := by unfold sA; exact va_up_ne _ _ h
theorem sA_1 {σ : MS} {j : Nat} {f : Nat → Int32} : (sA σ j f).1 = σ.1 := rfl
theorem sI_get {σ : MS} {j : Nat} {v : Int32} : (sI σ j v).1 j = v := by unfold sI; exact va_up_self _ _ _
theorem sI_ne {σ : MS} {j k : Nat} {v : Int32} (h : k ≠ j) : (sI σ j v).1 k = σ.1 k := by unfold sI; exact va_up_ne _ _ h
theorem sI_2 {σ : MS} {j : Nat} {v : Int32} : (sI σ j v).2 = σ.2 := rfl
theorem xI_get {τ : XS} {j : Nat} {v : Int32} : (xI τ j v).1 j = v := by unfold xI; exact va_up_self _ _ _
theorem xI_ne {τ : XS} {j k : Nat} {v : Int32} (h : k ≠ j) : (xI τ j v).1 k = τ.1 k := by unfold xI; exact va_up_ne _ _ h
theorem xI_2 {τ : XS} {j : Nat} {v : Int32} : (xI τ j v).2 = τ.2 := rfl
/-- when p dies by the entries below k with St -/
noncomputable def dieF (St : Nat → Prop) (wh who day : Nat → Int32) (p : Nat) : Nat → Int32
  | 0 => 10000
  | k + 1 => @ite _ (St k ∧ wh k = 0 ∧ who k = nI p) (Classical.propDecidable _) (day k) (dieF St wh who day p k)
theorem dieF_pos {St : Nat → Prop} {wh who day : Nat → Int32} {p k : Nat} (h : St k ∧ wh k = 0 ∧ who k = nI p) : dieF St wh who day p (k + 1) = day k := by
  unfold dieF; rw [if_pos h]
theorem dieF_neg {St : Nat → Prop} {wh who day : Nat → Int32} {p k : Nat} (h : ¬ (St k ∧ wh k = 0 ∧ who k = nI p)) : dieF St wh who day p (k + 1) = dieF St wh who day p k := by
  rw [dieF, if_neg h]
theorem dieF_congr {St St' : Nat → Prop} {wh who day : Nat → Int32} {p : Nat} : ∀ k, (∀ i, i < k → (St i ↔ St' i)) → dieF St wh who day p k = dieF St' wh who day p k := by
  intro k
  induction k with
  | zero => intro _; rfl
  | succ k ih =>
    intro h
    have e := ih fun i hi => h i (by omega)
    by_cases c : St k ∧ wh k = 0 ∧ who k = nI p
    · rw [dieF_pos c, dieF_pos ⟨(h k (by omega)).mp c.1, c.2⟩]
    · rw [dieF_neg c, dieF_neg (fun g => c ⟨(h k (by omega)).mpr g.1, g.2⟩), e]
/-- an entry stands by the first K ones, as the reference sees it -/
def StM (σ : MS) (K i : Nat) : Prop := i < K ∧ σ.2.1 8 i ≠ 7 ∧ ∀ j, j < K → σ.2.1 8 j = 7 → σ.2.1 9 j ≠ nI i
/-- what the reference asks of the book: entries' persons are persons, a STRUCK one's entry is an entry -/
def BookM (σ : MS) (K np : Nat) : Prop := K ≤ 200 ∧ np ≤ 24 ∧ σ.1 1 = nI np ∧ (∀ i, i < K → σ.2.1 8 i = 7 → ∃ j, j < K ∧ σ.2.1 9 i = nI j) ∧ (∀ i, i < K → σ.2.1 8 i = 0 → ∃ p, p < np ∧ σ.2.1 9 i = nI p)
def lookM (σ : MS) (K : Nat) (s d : Nat → Int32) : MS := sA (sA (sI σ 45 (nI K)) 43 s) 44 d
theorem lookM_1 {σ : MS} {K : Nat} {s d : Nat → Int32} {j : Nat} (h : j ≠ 45) : (lookM σ K s d).1 j = σ.1 j := by unfold lookM; rw [sA_1, sA_1, sI_ne h]
theorem lookM_K {σ : MS} {K : Nat} {s d : Nat → Int32} : (lookM σ K s d).1 45 = nI K := by unfold lookM; rw [sA_1, sA_1, sI_get]
theorem lookM_s {σ : MS} {K : Nat} {s d : Nat → Int32} : (lookM σ K s d).2.1 43 = s := by unfold lookM; rw [sA_ne (by decide), sA_get]
theorem lookM_d {σ : MS} {K : Nat} {s d : Nat → Int32} : (lookM σ K s d).2.1 44 = d := by unfold lookM; rw [sA_get]
theorem lookM_2 {σ : MS} {K : Nat} {s d : Nat → Int32} {j : Nat} (h : j ≠ 43 ∧ j ≠ 44) : (lookM σ K s d).2.1 j = σ.2.1 j := by unfold lookM; rw [sA_ne h.2, sA_ne h.1]; rfl
theorem lookM_s' {σ : MS} {K : Nat} {s d s' : Nat → Int32} : sA (lookM σ K s d) 43 s' = lookM σ K s' d := by unfold lookM; rw [sA_comm (by decide), sA_same]
theorem lookM_d' {σ : MS} {K : Nat} {s d d' : Nat → Int32} : sA (lookM σ K s d) 44 d' = lookM σ K s d' := by unfold lookM; rw [sA_same]
/-- the reference's looks, with K entries known -/
theorem M_looks_spec {σ : MS} {K np : Nat} (h : BookM σ K np) {e : Int32} (he : (e = -1 ∧ σ.1 7 = nI K) ∨ (e ≠ -1 ∧ e = nI K)) : ∃ s d, M_looks σ e = some ((), lookM σ K s d) ∧ (∀ i, i < K → (s i ≠ 0 ↔ StM σ K i)) ∧ ∀ p, p < np → d p = dieF (StM σ K) (σ.2.1 8) (σ.2.1 9) (σ.2.1 11) p K := by
  obtain ⟨hK, hnp, hp, hstr, hdea⟩ := h
  have g1 : ∀ {s d : Nat → Int32}, (lookM σ K s d).1 1 = nI np := fun {s d} => by rw [lookM_1 (by decide), hp]
  have g8 : ∀ {s d : Nat → Int32}, (lookM σ K s d).2.1 8 = σ.2.1 8 := fun {s d} => lookM_2 (by decide)
  have g9 : ∀ {s d : Nat → Int32}, (lookM σ K s d).2.1 9 = σ.2.1 9 := fun {s d} => lookM_2 (by decide)
  have g11 : ∀ {s d : Nat → Int32}, (lookM σ K s d).2.1 11 = σ.2.1 11 := fun {s d} => lookM_2 (by decide)
  -- the last loop: deaths
  have l4 : ∀ (m i : Nat) (s d : Nat → Int32) (fu : Nat), i + m = K → m < fu → (∀ i, i < K → (s i ≠ 0 ↔ StM σ K i)) → (∀ p, p < np → d p = dieF (StM σ K) (σ.2.1 8) (σ.2.1 9) (σ.2.1 11) p i) → ∃ d', M_looks_L121_r fu (lookM σ K s d) (nI i) = some ((), lookM σ K s d') ∧ ∀ p, p < np → d' p = dieF (StM σ K) (σ.2.1 8) (σ.2.1 9) (σ.2.1 11) p K := by
    intro m
    induction m with
    | zero =>
      intro i s d fu hi hf hs hd
      obtain ⟨f, rfl, -⟩ := fuel hf
      have hi : i = K := by omega
      subst hi
      exact ⟨d, by rw [M_looks_L121_r, lookM_K, if_pos (Int32.le_refl _)], hd⟩
    | succ m ih =>
      intro i s d fu hi hf hs hd
      obtain ⟨f, rfl, hf2⟩ := fuel hf
      have hlt : i < 200 := by omega
      have nx := fun d h => ih (i + 1) s d f (by omega) (by omega) hs h
      rw [← nI_1] at nx
      rw [M_looks_L121_r, lookM_K, if_neg (nI_ge (by omega) (by omega))]
      simp only [rd_nI hlt (show 200 < 2 ^ 31 by decide), lookM_s, g8, g9, g11, lookM_d, M_looks_J164]
      by_cases h1 : s i = 0
      · rw [if_pos h1]
        exact nx d fun p hp => by rw [dieF_neg (fun g => (hs i (by omega)).mpr g.1 h1)]; exact hd p hp
      rw [if_neg h1]
      by_cases h2 : σ.2.1 8 i = 0
      case neg =>
        rw [if_neg h2]
        exact nx d fun p hp => by rw [dieF_neg (fun g => h2 g.2.1)]; exact hd p hp
      rw [if_pos h2]
      obtain ⟨q, hq, eq⟩ := hdea i (by omega) h2
      rw [eq, wr_nI (show q < 24 by omega) (by decide), cl_nI (by omega), lookM_d']
      refine nx _ fun p hp => ?_
      by_cases c : p = q
      · subst c
        rw [dieF_pos ⟨(hs i (by omega)).mp h1, h2, eq⟩]
        exact pk_us
      · rw [dieF_neg (fun g => c ((nI_eq (by omega) (by omega)).mp (eq.symm.trans g.2.2)).symm), pk_un c]
        exact hd p hp
  -- never, ahead of it
  have l3 : ∀ (m i : Nat) (s d : Nat → Int32) (fu : Nat), i + m = np → m < fu → (∀ i, i < K → (s i ≠ 0 ↔ StM σ K i)) → (∀ p, p < i → d p = 10000) → ∃ d', M_looks_L96_r fu (lookM σ K s d) (nI i) = some ((), lookM σ K s d') ∧ ∀ p, p < np → d' p = dieF (StM σ K) (σ.2.1 8) (σ.2.1 9) (σ.2.1 11) p K := by
    intro m
    induction m with
    | zero =>
      intro i s d fu hi hf hs hd
      obtain ⟨f, rfl, -⟩ := fuel hf
      have hi : i = np := by omega
      subst hi
      rw [M_looks_L96_r, g1, if_pos (Int32.le_refl _)]
      exact l4 K 0 s d 100000 (by omega) (by omega) hs fun p hp => by rw [hd p hp]; rfl
    | succ m ih =>
      intro i s d fu hi hf hs hd
      obtain ⟨f, rfl, hf2⟩ := fuel hf
      have nx := fun d h => ih (i + 1) s d f (by omega) (by omega) hs h
      rw [← nI_1] at nx
      rw [M_looks_L96_r, g1, if_neg (nI_ge (by omega) (by omega)), wr_nI (show i < 24 by omega) (by decide), cl_nI (by omega), lookM_d, lookM_d']
      refine nx _ fun p hp => ?_
      by_cases c : p = i
      · subst c; exact pk_us
      · rw [pk_un c]; exact hd p (by omega)
  -- what is struck stands no more
  have l2 : ∀ (m i : Nat) (s d : Nat → Int32) (fu : Nat), i + m = K → m < fu → (∀ k, k < K → (s k ≠ 0 ↔ σ.2.1 8 k ≠ 7 ∧ ∀ j, j < i → σ.2.1 8 j = 7 → σ.2.1 9 j ≠ nI k)) → ∃ s' d', M_looks_L57_r fu (lookM σ K s d) (nI i) = some ((), lookM σ K s' d') ∧ (∀ i, i < K → (s' i ≠ 0 ↔ StM σ K i)) ∧ ∀ p, p < np → d' p = dieF (StM σ K) (σ.2.1 8) (σ.2.1 9) (σ.2.1 11) p K := by
    intro m
    induction m with
    | zero =>
      intro i s d fu hi hf hs
      obtain ⟨f, rfl, -⟩ := fuel hf
      have hi : i = K := by omega
      subst hi
      rw [M_looks_L57_r, lookM_K, if_pos (Int32.le_refl _)]
      have hs' : ∀ k, k < i → (s k ≠ 0 ↔ StM σ i k) := fun k hk => ⟨fun g => ⟨hk, (hs k hk).mp g⟩, fun g => (hs k hk).mpr g.2⟩
      obtain ⟨d', e1, e2⟩ := l3 np 0 s d 100000 (by omega) (by omega) hs' (fun p hp => absurd hp (Nat.not_lt_zero _))
      exact ⟨s, d', e1, hs', e2⟩
    | succ m ih =>
      intro i s d fu hi hf hs
      obtain ⟨f, rfl, hf2⟩ := fuel hf
      have hlt : i < 200 := by omega
      have nx := fun s h => ih (i + 1) s d f (by omega) (by omega) h
      rw [← nI_1] at nx
      rw [M_looks_L57_r, lookM_K, if_neg (nI_ge (by omega) (by omega))]
      simp only [rd_nI hlt (show 200 < 2 ^ 31 by decide), g8, g9, M_looks_J88]
      by_cases h1 : σ.2.1 8 i = 7
      · rw [if_pos h1]
        obtain ⟨q, hq, eq⟩ := hstr i (by omega) h1
        rw [eq, wr_nI (show q < 200 by omega) (by decide), cl_nI (by omega), lookM_s, lookM_s', nar0]
        refine nx _ fun k hk => ?_
        by_cases c : k = q
        · subst c
          rw [pk_us]
          exact ⟨fun g => absurd rfl g, fun g => absurd eq (g.2 i (by omega) h1)⟩
        · rw [pk_un c, hs k hk]
          refine and_congr_right fun _ => ⟨fun g j hj h7 => ?_, fun g j hj h7 => g j (by omega) h7⟩
          rcases Nat.lt_or_eq_of_le (Nat.le_of_lt_succ hj) with a | rfl
          · exact g j a h7
          · rw [eq]; exact fun e => c ((nI_eq (by omega) (by omega)).mp e).symm
      · rw [if_neg h1]
        refine nx s fun k hk => ?_
        rw [hs k hk]
        refine and_congr_right fun _ => ⟨fun g j hj h7 => ?_, fun g j hj h7 => g j (by omega) h7⟩
        rcases Nat.lt_or_eq_of_le (Nat.le_of_lt_succ hj) with a | rfl
        · exact g j a h7
        · exact absurd h7 h1
  have l1 : ∀ (m i : Nat) (s d : Nat → Int32) (fu : Nat), i + m = K → m < fu → (∀ k, k < i → (s k ≠ 0 ↔ σ.2.1 8 k ≠ 7)) → ∃ s' d', M_looks_L19_r fu (lookM σ K s d) (nI i) = some ((), lookM σ K s' d') ∧ (∀ i, i < K → (s' i ≠ 0 ↔ StM σ K i)) ∧ ∀ p, p < np → d' p = dieF (StM σ K) (σ.2.1 8) (σ.2.1 9) (σ.2.1 11) p K := by
    intro m
    induction m with
    | zero =>
      intro i s d fu hi hf hs
      obtain ⟨f, rfl, -⟩ := fuel hf
      have hi : i = K := by omega
      subst hi
      rw [M_looks_L19_r, lookM_K, if_pos (Int32.le_refl _)]
      exact l2 i 0 s d 100000 (by omega) (by omega) fun k hk => by rw [hs k hk]; exact ⟨fun g => ⟨g, fun j hj => absurd hj (Nat.not_lt_zero _)⟩, fun g => g.1⟩
    | succ m ih =>
      intro i s d fu hi hf hs
      obtain ⟨f, rfl, hf2⟩ := fuel hf
      have hlt : i < 200 := by omega
      have nx := fun s h => ih (i + 1) s d f (by omega) (by omega) h
      rw [← nI_1] at nx
      rw [M_looks_L19_r, lookM_K, if_neg (nI_ge (by omega) (by omega))]
      simp only [rd_nI hlt (show 200 < 2 ^ 31 by decide), g8, M_looks_J48, wr_nI hlt (show 200 < 2 ^ 31 by decide), cl_nI (show i < 2 ^ 31 by omega), lookM_s, lookM_s', nar0, nar1]
      by_cases h1 : σ.2.1 8 i = 7
      · rw [if_pos h1]
        refine nx _ fun k hk => ?_
        by_cases c : k = i
        · subst c; rw [pk_us]; exact ⟨fun g => absurd rfl g, fun g => absurd h1 g⟩
        · rw [pk_un c]; exact hs k (by omega)
      · rw [if_neg h1]
        refine nx _ fun k hk => ?_
        by_cases c : k = i
        · subst c; rw [pk_us]; exact ⟨fun _ => h1, fun _ => by decide⟩
        · rw [pk_un c]; exact hs k (by omega)
  have st : lookM σ K (σ.2.1 43) (σ.2.1 44) = sI σ 45 (nI K) := by
    unfold lookM sA
    show ((sI σ 45 (nI K)).1, va_up (va_up σ.2.1 43 (σ.2.1 43)) 44 (σ.2.1 44), σ.2.2) = _
    have e1 : va_up σ.2.1 43 (σ.2.1 43) = σ.2.1 := by funext j; unfold va_up; split <;> simp_all
    have e2 : va_up σ.2.1 44 (σ.2.1 44) = σ.2.1 := by funext j; unfold va_up; split <;> simp_all
    rw [e1, e2]; rfl
  have go := l1 K 0 (σ.2.1 43) (σ.2.1 44) 100000 (by omega) (by omega) (fun k hk => absurd hk (Nat.not_lt_zero _))
  rw [st] at go
  obtain ⟨s, d, e1, e2, e3⟩ := go
  refine ⟨s, d, ?_, e2, e3⟩
  rw [M_looks]
  rcases he with ⟨rfl, h7⟩ | ⟨hne, rfl⟩
  · rw [if_pos rfl, M_looks_J14, h7]; exact e1
  · rw [if_neg hne, M_looks_J14]; exact e1
/-! the class's readBook -/
theorem fillF_in {n j : Nat} {v : Int32} {f : Nat → Int32} (h : j < n) : fillF n v f j = v := by unfold fillF; rw [if_pos h]
/-- an entry stands by the first F ones, as the class sees it -/
def StX (τ : XS) (F i : Nat) : Prop := i < F ∧ τ.2.1 107 i ≠ 7 ∧ ¬ τ.2.1 112 i < nI F
theorem Bk_isSo_spec {τ : XS} {i F : Nat} (hi : i < 200) (hF : F ≤ 200) : Bk_isSo τ (nI i) (nI F) = some (@ite _ (StX τ F i) (Classical.propDecidable _) 1 0) := by
  unfold Bk_isSo
  by_cases h1 : F ≤ i
  · rw [if_pos (nI_le h1 (by omega)), if_neg (fun g : StX τ F i => by have := g.1; omega)]
  rw [if_neg (fun g => h1 ((nI_leI (by omega) (by omega)).mp g)), rd_nI hi (by decide)]
  by_cases h2 : τ.2.1 107 i = 7
  · rw [if_pos h2, if_neg (fun g : StX τ F i => g.2.1 h2)]
  rw [if_neg h2, rd_nI hi (by decide)]
  by_cases h3 : τ.2.1 112 i < nI F
  · rw [if_pos h3, if_neg (fun g : StX τ F i => g.2.2 h3)]
  · rw [if_neg h3, if_pos ⟨by omega, h2, h3⟩]
/-- p's entries but deaths -/
def RelX (τ : XS) (F p e : Nat) : Prop := StX τ F e ∧ τ.2.1 107 e ≠ 0 ∧ (τ.2.1 108 e = nI p ∨ (τ.2.1 107 e = 1 ∧ τ.2.1 109 e = nI p))
/-- what the class's readBook asks of the book -/
def BookX (τ : XS) (F : Nat) (bl : List Nat) : Prop := F ≤ 200 ∧ bl.length ≤ 200 ∧ τ.1 115 = nI bl.length ∧ (∀ (k : Nat) (h : k < bl.length), τ.2.1 114 k = nI bl[k]) ∧ (∀ e, e ∈ bl → e < 200) ∧ bl.Nodup ∧ bl.Pairwise (ltD (τ.2.1 110)) ∧ (∀ i, i < F → τ.2.1 107 i ≠ 7 → i ∈ bl) ∧ (∀ i, i < F → τ.2.1 107 i ≠ 7 → ∃ p, p < 24 ∧ τ.2.1 108 i = nI p ∧ (τ.2.1 107 i = 1 → ∃ q, q < 24 ∧ τ.2.1 109 i = nI q ∧ q ≠ p))
def lookX (τ : XS) (d a t l : Nat → Int32) : XS := xA (xA (xA (xA τ 401 d) 402 a) 403 t) 404 l
theorem lookX_d {τ : XS} {d a t l : Nat → Int32} : (lookX τ d a t l).2.1 401 = d := by unfold lookX; rw [xA_ne (by decide), xA_ne (by decide), xA_ne (by decide), xA_get]
theorem lookX_a {τ : XS} {d a t l : Nat → Int32} : (lookX τ d a t l).2.1 402 = a := by unfold lookX; rw [xA_ne (by decide), xA_ne (by decide), xA_get]
theorem lookX_t {τ : XS} {d a t l : Nat → Int32} : (lookX τ d a t l).2.1 403 = t := by unfold lookX; rw [xA_ne (by decide), xA_get]
theorem lookX_l {τ : XS} {d a t l : Nat → Int32} : (lookX τ d a t l).2.1 404 = l := by unfold lookX; rw [xA_get]
theorem lookX_2 {τ : XS} {d a t l : Nat → Int32} {j : Nat} (h : j < 401 ∨ 404 < j) : (lookX τ d a t l).2.1 j = τ.2.1 j := by unfold lookX; rw [xA_ne (by omega), xA_ne (by omega), xA_ne (by omega), xA_ne (by omega)]
theorem lookX_1 {τ : XS} {d a t l : Nat → Int32} : (lookX τ d a t l).1 = τ.1 := rfl
theorem lookX_d' {τ : XS} {d a t l d' : Nat → Int32} : xA (lookX τ d a t l) 401 d' = lookX τ d' a t l := by unfold lookX; rw [xA_comm (by decide), xA_comm (j := 403) (by decide), xA_comm (j := 402) (by decide), xA_same]
theorem lookX_a' {τ : XS} {d a t l a' : Nat → Int32} : xA (lookX τ d a t l) 402 a' = lookX τ d a' t l := by unfold lookX; rw [xA_comm (by decide), xA_comm (j := 403) (by decide), xA_same]
theorem lookX_t' {τ : XS} {d a t l t' : Nat → Int32} : xA (lookX τ d a t l) 403 t' = lookX τ d a t' l := by unfold lookX; rw [xA_comm (by decide), xA_same]
theorem lookX_l' {τ : XS} {d a t l l' : Nat → Int32} : xA (lookX τ d a t l) 404 l' = lookX τ d a t l' := by unfold lookX; rw [xA_same]
theorem xA_self {τ : XS} {j : Nat} : xA τ j (τ.2.1 j) = τ := by
  have e1 : va_up τ.2.1 j (τ.2.1 j) = τ.2.1 := by funext i; unfold va_up; split <;> simp_all
  unfold xA; rw [e1]
theorem lookX_self {τ : XS} : lookX τ (τ.2.1 401) (τ.2.1 402) (τ.2.1 403) (τ.2.1 404) = τ := by
  unfold lookX; rw [xA_self, xA_self, xA_self, xA_self]
theorem StX_look {τ : XS} {d a t l : Nat → Int32} {F i : Nat} : StX (lookX τ d a t l) F i ↔ StX τ F i := by unfold StX; rw [lookX_2 (by decide), lookX_2 (by decide)]
def sumN (f : Nat → Nat) : Nat → Nat
  | 0 => 0
  | n + 1 => sumN f n + f n
theorem sumN_le {f g : Nat → Nat} : ∀ n, (∀ p, p < n → f p ≤ g p) → sumN f n ≤ sumN g n := by
  intro n
  induction n with
  | zero => intro _; exact Nat.le_refl _
  | succ n ih => intro h; have := ih fun p hp => h p (by omega); have := h n (by omega); show sumN f n + f n ≤ sumN g n + g n; omega
theorem sumN_add {f g : Nat → Nat} : ∀ n, sumN (fun p => f p + g p) n = sumN f n + sumN g n := by
  intro n
  induction n with
  | zero => rfl
  | succ n ih => show sumN (fun p => f p + g p) n + (f n + g n) = sumN f n + f n + (sumN g n + g n); omega
theorem sumN_mono {f : Nat → Nat} {a b : Nat} (h : a < b) : sumN f a + f a ≤ sumN f b := by
  induction b with
  | zero => omega
  | succ b ih =>
    show _ ≤ sumN f b + f b
    rcases Nat.lt_or_eq_of_le (Nat.le_of_lt_succ h) with g | rfl
    · have := ih g; omega
    · exact Nat.le_refl _
theorem sumN_is {w : Nat} : ∀ n, sumN (fun p => if p = w then 1 else 0) n ≤ 1 ∧ (n ≤ w → sumN (fun p => if p = w then 1 else 0) n = 0) := by
  intro n
  induction n with
  | zero => exact ⟨Nat.zero_le _, fun _ => rfl⟩
  | succ n ih =>
    constructor
    · show sumN _ n + (if n = w then 1 else 0) ≤ 1
      by_cases h : n = w
      · rw [if_pos h, ih.2 (by omega)]; omega
      · rw [if_neg h]; exact ih.1
    · intro h
      show sumN _ n + (if n = w then 1 else 0) = 0
      rw [if_neg (by omega), ih.2 (by omega)]
noncomputable def cntX (τ : XS) (F i p : Nat) : Nat := (fl (RelX τ F p) i).length
theorem cntX_s {τ : XS} {F i p : Nat} : cntX τ F (i + 1) p = cntX τ F i p + @ite _ (RelX τ F p i) (Classical.propDecidable _) 1 0 := by
  unfold cntX
  by_cases h : RelX τ F p i
  · rw [fl_pos h, if_pos h, List.length_append, List.length_singleton]
  · rw [fl_neg h, if_neg h]; rfl
theorem cntX_tot {τ : XS} {F : Nat} {bl : List Nat} (h : BookX τ F bl) : ∀ i, i ≤ F → sumN (cntX τ F i) 24 ≤ 2 * i := by
  intro i
  induction i with
  | zero => intro _; exact Nat.le_refl _
  | succ i ih =>
    intro hi
    have e : cntX τ F (i + 1) = fun p => cntX τ F i p + @ite _ (RelX τ F p i) (Classical.propDecidable _) 1 0 := funext fun p => cntX_s
    rw [e, sumN_add]
    have h1 := ih (by omega)
    have h2 : sumN (fun p => @ite _ (RelX τ F p i) (Classical.propDecidable _) 1 0) 24 ≤ 2 := by
      by_cases h7 : τ.2.1 107 i = 7
      · have : sumN (fun p => @ite _ (RelX τ F p i) (Classical.propDecidable _) 1 0) 24 ≤ sumN (fun _ => 0) 24 := sumN_le 24 fun p _ => by rw [if_neg (fun g : RelX τ F p i => g.1.2.1 h7)]; exact Nat.le_refl _
        exact Nat.le_trans this (by decide)
      · obtain ⟨w, hw, ew, ho⟩ := h.2.2.2.2.2.2.2.2 i (by omega) h7
        have a1 := (sumN_is (w := w) 24).1
        by_cases h8 : τ.2.1 107 i = 1
        · obtain ⟨q, hq, eq, -⟩ := ho h8
          have a2 := (sumN_is (w := q) 24).1
          have a3 : sumN (fun p => @ite _ (RelX τ F p i) (Classical.propDecidable _) 1 0) 24 ≤ sumN (fun p => (if p = w then 1 else 0) + (if p = q then 1 else 0)) 24 := sumN_le 24 fun p hp => by
            by_cases g : RelX τ F p i
            · rw [if_pos g]
              rcases g.2.2 with g2 | g2
              · rw [ew] at g2; rw [if_pos ((nI_eq (by omega) (by omega)).mp g2).symm]; omega
              · rw [eq] at g2; rw [if_pos (c := p = q) ((nI_eq (by omega) (by omega)).mp g2.2).symm]; omega
            · rw [if_neg g]; omega
          rw [sumN_add] at a3
          omega
        · have a3 : sumN (fun p => @ite _ (RelX τ F p i) (Classical.propDecidable _) 1 0) 24 ≤ sumN (fun p => (if p = w then 1 else 0)) 24 := sumN_le 24 fun p hp => by
            by_cases g : RelX τ F p i
            · rw [if_pos g]
              rcases g.2.2 with g2 | g2
              · rw [ew] at g2; rw [if_pos ((nI_eq (by omega) (by omega)).mp g2).symm]; omega
              · exact absurd g2.1 h8
            · rw [if_neg g]; omega
          omega
    omega
theorem PL_len {τ : XS} {F p : Nat} {bl : List Nat} (h : BookX τ F bl) : (flL (RelX τ F p) bl).length = cntX τ F F p := by
  refine (perm_of (flL_nodup h.2.2.2.2.2.1) fl_nodup fun i => ?_).length_eq
  rw [flL_mem, fl_mem]
  exact ⟨fun g => ⟨g.2.1.1, g.2⟩, fun g => ⟨h.2.2.2.2.2.2.2.1 i g.1 g.2.1.2.1, g.2⟩⟩
/-- the places of the persons' entries: m p is what is laid of p's so far -/
def PlM (τ : XS) (F : Nat) (m : Nat → List Nat) (a t l : Nat → Int32) : Prop := ∀ p, p < 24 → a p = nI (sumN (cntX τ F F) p) ∧ t p = nI (sumN (cntX τ F F) p + (m p).length) ∧ (m p).length ≤ cntX τ F F p ∧ ∀ (x : Nat) (hx : x < (m p).length), l (sumN (cntX τ F F) p + x) = nI (m p)[x]
theorem Lv_listFor_spec {τ : XS} {d a t l : Nat → Int32} {q c : Nat} {e : Int32} (hq : q < 24) (ht : t q = nI c) (hc : c < 400) : Lv_listFor (lookX τ d a t l) (nI q) e = some ((), lookX τ d a (upd t q (nI (c + 1))) (upd l c e)) := by
  unfold Lv_listFor
  rw [lookX_t, rd_nI hq (by decide), ht, if_neg (fun g => by rw [show (400 : Int32) = nI 400 from rfl, nI_leI (by omega) (by omega)] at g; omega), rd_nI hq (by decide), ht, wr_nI hq (by decide), wr_nI hc (by decide), cl_nI (by omega), cl_nI (by omega), lookX_t', lookX_l, lookX_l', nI_1]
theorem PlM.step {τ : XS} {F : Nat} {bl : List Nat} {m : Nat → List Nat} {a t l : Nat → Int32} (hB : BookX τ F bl) (h : PlM τ F m a t l) {q e : Nat} (hq : q < 24) (hl : (m q).length < cntX τ F F q) : sumN (cntX τ F F) q + (m q).length < 400 ∧ PlM τ F (fun p => if p = q then m q ++ [e] else m p) a (upd t q (nI (sumN (cntX τ F F) q + (m q).length + 1))) (upd l (sumN (cntX τ F F) q + (m q).length) (nI e)) := by
  have tot := cntX_tot hB F (Nat.le_refl _)
  have hF := hB.1
  have hq2 : sumN (cntX τ F F) q + cntX τ F F q ≤ sumN (cntX τ F F) 24 := sumN_mono hq
  refine ⟨by omega, fun p hp => ?_⟩
  obtain ⟨h1, h2, h3, h4⟩ := h p hp
  by_cases c : p = q
  · subst c
    dsimp only
    rw [if_pos rfl]
    refine ⟨h1, ?_, by rw [List.length_append, List.length_singleton]; omega, ?_⟩
    · rw [pk_us, List.length_append, List.length_singleton, Nat.add_assoc]
    · intro x hx
      rw [List.length_append, List.length_singleton] at hx
      by_cases cx : x = (m p).length
      · subst cx
        rw [pk_us]
        simp
      · rw [pk_un (by omega), h4 x (by omega)]
        congr 1
        rw [List.getElem_append_left (by omega)]
  · dsimp only
    rw [if_neg c]
    refine ⟨h1, by rw [pk_un c]; exact h2, h3, fun x hx => ?_⟩
    rw [pk_un ?_]
    · exact h4 x hx
    · rcases Nat.lt_or_gt_of_ne c with g | g
      · have := sumN_mono (f := cntX τ F F) g; omega
      · have := sumN_mono (f := cntX τ F F) g; omega
theorem PlM.congr {τ : XS} {F : Nat} {m m' : Nat → List Nat} {a t l : Nat → Int32} (h : PlM τ F m a t l) (e : ∀ p, p < 24 → m p = m' p) : PlM τ F m' a t l := fun p hp => by
  have := h p hp
  rw [e p hp] at this
  exact this
theorem flL_snoc_pos {M : Nat → Prop} {l : List Nat} {e : Nat} (h : M e) : flL M (l ++ [e]) = flL M l ++ [e] := by rw [flL_app, flL_pos h, flL_nil]
theorem flL_snoc_neg {M : Nat → Prop} {l : List Nat} {e : Nat} (h : ¬ M e) : flL M (l ++ [e]) = flL M l := by rw [flL_app, flL_neg h, flL_nil, List.append_nil]
theorem PL_room {τ : XS} {F p e : Nat} {bl pre s : List Nat} (h : BookX τ F bl) (hbl : bl = pre ++ e :: s) (hr : RelX τ F p e) : (flL (RelX τ F p) pre).length < cntX τ F F p := by
  rw [← PL_len h, hbl, flL_app, flL_pos hr, List.length_append, List.length_cons]
  omega
/-- the class's readBook, by the first F entries -/
theorem Lv_readBook_spec {τ : XS} {F : Nat} {bl : List Nat} (hB : BookX τ F bl) {e : Int32} (he : (e < 0 ∧ τ.1 113 = nI F) ∨ (∃ ne, τ.1 113 = nI ne ∧ ne ≤ 200 ∧ F ≤ ne ∧ e = nI F)) (hdea : ∀ i, i < F → τ.2.1 107 i = 0 → ∃ p, p < 24 ∧ τ.2.1 108 i = nI p) : ∃ d a t l, Lv_readBook τ e = some ((), lookX τ d a t l) ∧ (∀ p, p < 24 → d p = dieF (StX τ F) (τ.2.1 107) (τ.2.1 108) (τ.2.1 110) p F) ∧ PlM τ F (fun p => flL (RelX τ F p) bl) a t l := by
  have hF := hB.1
  have htot := cntX_tot hB F (Nat.le_refl _)
  have g107 : ∀ {d a t l : Nat → Int32}, (lookX τ d a t l).2.1 107 = τ.2.1 107 := lookX_2 (by decide)
  have g108 : ∀ {d a t l : Nat → Int32}, (lookX τ d a t l).2.1 108 = τ.2.1 108 := lookX_2 (by decide)
  have g109 : ∀ {d a t l : Nat → Int32}, (lookX τ d a t l).2.1 109 = τ.2.1 109 := lookX_2 (by decide)
  have g110 : ∀ {d a t l : Nat → Int32}, (lookX τ d a t l).2.1 110 = τ.2.1 110 := lookX_2 (by decide)
  have g114 : ∀ {d a t l : Nat → Int32}, (lookX τ d a t l).2.1 114 = τ.2.1 114 := lookX_2 (by decide)
  have so : ∀ {d a t l : Nat → Int32} {i : Nat}, i < 200 → Bk_isSo (lookX τ d a t l) (nI i) (nI F) = some (@ite _ (StX τ F i) (Classical.propDecidable _) 1 0) := fun {d a t l i} hi => by
    rw [Bk_isSo_spec hi hF]
    by_cases c : StX τ F i
    · rw [if_pos c, if_pos (StX_look.mpr c)]
    · rw [if_neg c, if_neg (fun g => c (StX_look.mp g))]
  -- the last loop: the lists
  have l3 : ∀ (s pre : List Nat) (d a t l : Nat → Int32) (fu : Nat), bl = pre ++ s → s.length < fu → PlM τ F (fun p => flL (RelX τ F p) pre) a t l → ∃ t' l', Lv_readBook_L213_r fu (lookX τ d a t l) (nI F) (nI pre.length) = some ((), lookX τ d a t' l') ∧ PlM τ F (fun p => flL (RelX τ F p) bl) a t' l' := by
    intro s
    induction s with
    | nil =>
      intro pre d a t l fu hbl hf hm
      obtain ⟨f, rfl, -⟩ := fuel hf
      rw [List.append_nil] at hbl
      subst hbl
      exact ⟨t, l, by rw [Lv_readBook_L213_r, lookX_1, hB.2.2.1, if_pos (Int32.le_refl _)], hm⟩
    | cons e s ih =>
      intro pre d a t l fu hbl hf hm
      obtain ⟨f, rfl, hf2⟩ := fuel hf
      have nx := fun t l h => ih (pre ++ [e]) d a t l f (by rw [hbl]; simp) (by rw [List.length_cons] at hf2; omega) h
      rw [List.length_append, List.length_singleton, ← nI_1] at nx
      have hlen : bl.length = pre.length + (s.length + 1) := by rw [hbl, List.length_append, List.length_cons]
      have h200 := hB.2.1
      have he : τ.2.1 114 pre.length = nI e := by
        rw [hB.2.2.2.1 pre.length (by omega)]
        congr 1
        simp [hbl]
      have he2 : e < 200 := hB.2.2.2.2.1 e (by rw [hbl]; simp)
      rw [Lv_readBook_L213_r, lookX_1, hB.2.2.1, if_neg (nI_ge (by omega) (by omega)), rd_nI (show pre.length < 200 by omega) (by decide), g114, he, so he2]
      show ∃ t' l', (if (@ite Int32 (StX τ F e) (Classical.propDecidable _) 1 0) = 0 then _ else _) = _ ∧ _
      simp only [Lv_readBook_J312]
      by_cases c1 : StX τ F e
      case neg =>
        rw [if_neg c1, if_pos rfl]
        exact nx t l (hm.congr fun p _ => (flL_snoc_neg fun g => c1 g.1).symm)
      rw [if_pos c1, if_neg (by decide), rd_nI he2 (by decide), g107]
      by_cases c2 : τ.2.1 107 e = 0
      · rw [if_pos c2]
        exact nx t l (hm.congr fun p _ => (flL_snoc_neg fun g => g.2.1 c2).symm)
      rw [if_neg c2, rd_nI he2 (by decide), g108]
      obtain ⟨q, hq, eq, ho⟩ := hB.2.2.2.2.2.2.2.2 e c1.1 c1.2.1
      have r1 : RelX τ F q e := ⟨c1, c2, Or.inl eq⟩
      obtain ⟨b1, s1⟩ := hm.step (e := e) hB hq (PL_room hB hbl r1)
      rw [eq, Lv_listFor_spec hq (hm q hq).2.1 b1, bind_pq, rd_nI he2 (by decide), g107]
      by_cases c3 : τ.2.1 107 e = 1
      case neg =>
        rw [if_neg c3]
        refine nx _ _ (s1.congr fun p hp => ?_)
        by_cases cp : p = q
        · subst cp; rw [if_pos rfl, flL_snoc_pos r1]
        · rw [if_neg cp, flL_snoc_neg]
          rintro ⟨-, -, g | g⟩
          · rw [eq] at g; exact cp ((nI_eq (by omega) (by omega)).mp g).symm
          · exact c3 g.1
      rw [if_pos c3, rd_nI he2 (by decide), g109]
      obtain ⟨q2, hq2, eq2, hne⟩ := ho c3
      have r2 : RelX τ F q2 e := ⟨c1, c2, Or.inr ⟨c3, eq2⟩⟩
      have lr : ((fun p => if p = q then (fun p => flL (RelX τ F p) pre) q ++ [e] else (fun p => flL (RelX τ F p) pre) p) q2).length < cntX τ F F q2 := by
        show (if q2 = q then _ else _ : List Nat).length < _
        rw [if_neg hne]; exact PL_room hB hbl r2
      obtain ⟨b2, s2⟩ := s1.step (e := e) hB hq2 lr
      rw [eq2, Lv_listFor_spec hq2 (s1 q2 hq2).2.1 b2]
      rw [bind_pq]
      refine nx _ _ (s2.congr fun p hp => ?_)
      by_cases cp2 : p = q2
      · subst cp2
        rw [if_pos rfl]
        show (if p = q then _ else _ : List Nat) ++ [e] = _
        rw [if_neg hne, flL_snoc_pos r2]
      · rw [if_neg cp2]
        show (if p = q then _ else _ : List Nat) = _
        by_cases cp : p = q
        · subst cp; rw [if_pos rfl, flL_snoc_pos r1]
        · rw [if_neg cp, flL_snoc_neg]
          rintro ⟨-, -, g | g⟩
          · rw [eq] at g; exact cp ((nI_eq (by omega) (by omega)).mp g).symm
          · rw [eq2] at g; exact cp2 ((nI_eq (by omega) (by omega)).mp g.2).symm
  -- the places
  have l2 : ∀ (m p : Nat) (d a t l : Nat → Int32) (fu : Nat), p + m = 24 → m < fu → (∀ x, x < p → a x = nI (sumN (cntX τ F F) x) ∧ t x = nI (sumN (cntX τ F F) x)) → (∀ x, p ≤ x → x < 24 → t x = nI (cntX τ F F x)) → ∃ a' t' l', Lv_readBook_L165_r fu (lookX τ d a t l) (nI F) (nI (sumN (cntX τ F F) p)) (nI p) = some ((), lookX τ d a' t' l') ∧ PlM τ F (fun p => flL (RelX τ F p) bl) a' t' l' := by
    intro m
    induction m with
    | zero =>
      intro p d a t l fu hp hf h1 h2
      obtain ⟨f, rfl, -⟩ := fuel hf
      have hp : p = 24 := by omega
      subst hp
      rw [Lv_readBook_L165_r, if_pos (by decide)]
      obtain ⟨t', l', e1, e2⟩ := l3 bl [] d a t l 100000 rfl (by have := hB.2.1; omega) (fun x hx => ⟨(h1 x hx).1, by dsimp only; rw [flL_nil]; exact (h1 x hx).2, Nat.zero_le _, fun y hy => absurd hy (Nat.not_lt_zero _)⟩)
      exact ⟨a, t', l', e1, e2⟩
    | succ m ih =>
      intro p d a t l fu hp hf h1 h2
      obtain ⟨f, rfl, hf2⟩ := fuel hf
      have hp24 : p < 24 := by omega
      have nx := fun a t h h' => ih (p + 1) d a t l f (by omega) (by omega) h h'
      rw [← nI_1] at nx
      rw [Lv_readBook_L165_r, if_neg (fun g => by rw [show (24 : Int32) = nI 24 from rfl, nI_leI (by decide) (by omega)] at g; omega), wr_nI hp24 (by decide), cl_nI (by omega), lookX_a, lookX_a', rd_nI hp24 (by decide), lookX_t, rd_nI hp24 (by decide), lookX_a, wr_nI hp24 (by decide), lookX_t', pk_us, h2 p (Nat.le_refl _) hp24, nI_add]
      refine nx _ _ (fun x hx => ?_) (fun x hx hx2 => ?_)
      · by_cases c : x = p
        · subst c; exact ⟨pk_us, pk_us⟩
        · rw [pk_un c, pk_un c]; exact h1 x (by omega)
      · rw [pk_un (by omega)]; exact h2 x (by omega) hx2
  have l1 : ∀ (m i : Nat) (d a t l : Nat → Int32) (fu : Nat), i + m = F → m < fu → (∀ p, p < 24 → d p = dieF (StX τ F) (τ.2.1 107) (τ.2.1 108) (τ.2.1 110) p i) → (∀ p, p < 24 → t p = nI (cntX τ F i p)) → ∃ d' a' t' l', Lv_readBook_L47_r fu (lookX τ d a t l) (nI F) (nI i) = some ((), lookX τ d' a' t' l') ∧ (∀ p, p < 24 → d' p = dieF (StX τ F) (τ.2.1 107) (τ.2.1 108) (τ.2.1 110) p F) ∧ PlM τ F (fun p => flL (RelX τ F p) bl) a' t' l' := by
    intro m
    induction m with
    | zero =>
      intro i d a t l fu hi hf h1 h2
      obtain ⟨f, rfl, -⟩ := fuel hf
      have hi : i = F := by omega
      subst hi
      rw [Lv_readBook_L47_r, if_pos (Int32.le_refl _)]
      obtain ⟨a', t', l', e1, e2⟩ := l2 24 0 d a t l 100000 (by omega) (by omega) (fun x hx => absurd hx (Nat.not_lt_zero _)) (fun x _ hx => h2 x hx)
      exact ⟨d, a', t', l', e1, h1, e2⟩
    | succ m ih =>
      intro i d a t l fu hi hf h1 h2
      obtain ⟨f, rfl, hf2⟩ := fuel hf
      have hlt : i < 200 := by omega
      have nx := fun d t h h' => ih (i + 1) d a t l f (by omega) (by omega) h h'
      rw [← nI_1] at nx
      rw [Lv_readBook_L47_r, if_neg (nI_ge (by omega) (by omega)), so hlt]
      show ∃ d' a' t' l', (if (@ite Int32 (StX τ F i) (Classical.propDecidable _) 1 0) = 0 then _ else _) = _ ∧ _
      simp only [Lv_readBook_J154]
      by_cases c1 : StX τ F i
      case neg =>
        rw [if_neg c1, if_pos rfl]
        exact nx d t (fun p hp => by rw [dieF_neg (fun g => c1 g.1)]; exact h1 p hp) (fun p hp => by rw [cntX_s, if_neg (fun g : RelX τ F p i => c1 g.1)]; exact h2 p hp)
      rw [if_pos c1, if_neg (by decide), rd_nI hlt (by decide), g107]
      by_cases c2 : τ.2.1 107 i = 0
      · rw [if_pos c2, rd_nI hlt (by decide), rd_nI hlt (by decide), g108, g110]
        obtain ⟨q, hq, eq⟩ := hdea i (by omega) c2
        rw [eq, wr_nI hq (by decide), cl_nI (by omega), lookX_d, lookX_d']
        refine nx _ t (fun p hp => ?_) (fun p hp => by rw [cntX_s, if_neg (fun g : RelX τ F p i => g.2.1 c2)]; exact h2 p hp)
        by_cases c : p = q
        · subst c; rw [dieF_pos ⟨c1, c2, eq⟩]; exact pk_us
        · rw [dieF_neg (fun g => c ((nI_eq (by omega) (by omega)).mp (eq.symm.trans g.2.2)).symm), pk_un c]; exact h1 p hp
      rw [if_neg c2, rd_nI hlt (by decide), g108]
      obtain ⟨q, hq, eq, ho⟩ := hB.2.2.2.2.2.2.2.2 i (by omega) c1.2.1
      have dn : ∀ p, p < 24 → d p = dieF (StX τ F) (τ.2.1 107) (τ.2.1 108) (τ.2.1 110) p (i + 1) := fun p hp => by rw [dieF_neg (fun g => c2 g.2.1)]; exact h1 p hp
      have r1 : RelX τ F q i := ⟨c1, c2, Or.inl eq⟩
      rw [eq, lookX_t, rd_nI hq (by decide), wr_nI hq (by decide), cl_nI (by omega), lookX_t', rd_nI hlt (by decide), g107, h2 q hq, nI_1]
      by_cases c3 : τ.2.1 107 i = 1
      case neg =>
        rw [if_neg c3]
        refine nx _ _ dn (fun p hp => ?_)
        rw [cntX_s]
        by_cases c : p = q
        · subst c; rw [pk_us, if_pos r1]
        · rw [pk_un c, if_neg ?_, h2 p hp]
          · rfl
          · rintro ⟨-, -, g | g⟩
            · rw [eq] at g; exact c ((nI_eq (by omega) (by omega)).mp g).symm
            · exact c3 g.1
      rw [if_pos c3, rd_nI hlt (by decide), g109]
      obtain ⟨q2, hq2, eq2, hne⟩ := ho c3
      have r2 : RelX τ F q2 i := ⟨c1, c2, Or.inr ⟨c3, eq2⟩⟩
      rw [eq2, lookX_t, rd_nI hq2 (by decide), wr_nI hq2 (by decide), cl_nI (show q2 < 2 ^ 31 by omega), lookX_t', pk_un hne, h2 q2 hq2, nI_1]
      refine nx _ _ dn (fun p hp => ?_)
      rw [cntX_s]
      by_cases cp2 : p = q2
      · subst cp2; rw [pk_us, if_pos r2]
      · rw [pk_un cp2]
        by_cases c : p = q
        · subst c; rw [pk_us, if_pos r1]
        · rw [pk_un c, if_neg ?_, h2 p hp]
          · rfl
          · rintro ⟨-, -, g | g⟩
            · rw [eq] at g; exact c ((nI_eq (by omega) (by omega)).mp g).symm
            · rw [eq2] at g; exact cp2 ((nI_eq (by omega) (by omega)).mp g.2).symm
  have st : xA (xA τ 401 (fillF 24 10000 (τ.2.1 401))) 403 (fillF 24 0 (τ.2.1 403)) = lookX τ (fillF 24 10000 (τ.2.1 401)) (τ.2.1 402) (fillF 24 0 (τ.2.1 403)) (τ.2.1 404) := by
    have e := congrArg (fun s => xA (xA s 401 (fillF 24 10000 (τ.2.1 401))) 403 (fillF 24 0 (τ.2.1 403))) (lookX_self (τ := τ)).symm
    rw [lookX_d', lookX_t'] at e
    exact e
  have go := l1 F 0 (fillF 24 10000 (τ.2.1 401)) (τ.2.1 402) (fillF 24 0 (τ.2.1 403)) (τ.2.1 404) 100000 (by omega) (by omega) (fun p hp => by rw [fillF_in hp]; rfl) (fun p hp => by rw [fillF_in hp]; rfl)
  rw [← st] at go
  have J26 : Lv_readBook_J26 τ (nI F) = Lv_readBook_L47_r 100000 (xA (xA τ 401 (fillF 24 10000 (τ.2.1 401))) 403 (fillF 24 0 (τ.2.1 403))) (nI F) (nI 0) := by
    rw [Lv_readBook_J26, xA_ne (by decide)]; rfl
  obtain ⟨d, a, t, l, e1, e2, e3⟩ := go
  refine ⟨d, a, t, l, ?_, e2, e3⟩
  rw [Lv_readBook]
  rcases he with ⟨h0, h7⟩ | ⟨ne, h7, hne, hle, rfl⟩
  · rw [if_pos h0, Lv_readBook_J15, h7, J26]; exact e1
  · rw [if_neg (nI_pos (by omega)), h7, if_pos (nI_le hle (by omega)), J26]; exact e1
