/-! the reference's loops over the entries: what they answer -/
theorem fuel {n m : Nat} (h : m < n) : ∃ f, n = f + 1 ∧ m ≤ f := ⟨n - 1, by omega, by omega⟩
def SLast (σ : MS) (p kinds day : Int32) (i : Nat) : Prop := σ.2.1 43 i ≠ 0 ∧ ((kinds >>> (σ.2.1 8 i &&& 31)) &&& 1) = 1 ∧ σ.2.1 8 i ≠ 1 ∧ σ.2.1 9 i = p ∧ σ.2.1 11 i ≤ day
theorem M_lastOf_spec (σ : MS) {K : Nat} (hK : σ.1 45 = nI K) (hK2 : K ≤ 200) (p kinds day : Int32) : ∃ r, M_lastOf σ p kinds day = some r ∧ LastP (SLast σ p kinds day) K (σ.2.1 11) r := by
  have key : ∀ (m i : Nat) (r : Int32) (fu : Nat), i + m = K → m < fu → LastP (SLast σ p kinds day) i (σ.2.1 11) r → ∃ r', M_lastOf_L6_r σ fu p kinds day r (nI i) = some r' ∧ LastP (SLast σ p kinds day) K (σ.2.1 11) r' := by
    intro m
    induction m with
    | zero =>
      intro i r fu hi hf hr
      obtain ⟨f, rfl, -⟩ := fuel hf
      have hi : i = K := by omega
      subst hi
      exact ⟨r, by rw [M_lastOf_L6_r, hK, if_pos (Int32.le_refl _)], hr⟩
    | succ m ih =>
      intro i r fu hi hf hr
      obtain ⟨f, rfl, hf2⟩ := fuel hf
      have hlt : i < 200 := by omega
      have nx := ih (i + 1)
      rw [← nI_1] at nx
      have skip : ¬ SLast σ p kinds day i → ∃ r', M_lastOf_L6_r σ f p kinds day r (nI i + 1) = some r' ∧ LastP (SLast σ p kinds day) K (σ.2.1 11) r' := fun hs => nx r f (by omega) (by omega) (hr.skip hs)
      rw [M_lastOf_L6_r, hK, if_neg (nI_ge (by omega) (by omega))]
      simp only [rd_nI hlt (by decide), M_lastOf_J77, M_lastOf_J78, M_lastOf_J113, M_lastOf_J108, M_lastOf_J115, if_true]
      by_cases h1 : σ.2.1 43 i = 0
      · rw [if_pos h1]; exact skip fun g => g.1 h1
      rw [if_neg h1]
      by_cases h2 : ((kinds >>> (σ.2.1 8 i &&& 31)) &&& 1) = 1
      case neg => rw [if_neg h2]; exact skip fun g => h2 g.2.1
      rw [if_pos h2]
      by_cases h3 : σ.2.1 8 i = 1
      · rw [if_pos h3]; exact skip fun g => g.2.2.1 h3
      rw [if_neg h3]
      by_cases h4 : σ.2.1 9 i = p
      case neg => rw [if_neg h4]; exact skip fun g => h4 g.2.2.2.1
      rw [if_pos h4]
      by_cases h5 : day < σ.2.1 11 i
      · rw [if_pos h5]; exact skip fun g => by have := g.2.2.2.2; rw [i32_lt] at h5; rw [i32_le] at this; omega
      rw [if_neg h5, if_neg (by decide)]
      have hs : SLast σ p kinds day i := ⟨h1, h2, h3, h4, by rw [i32_lt] at h5; rw [i32_le]; omega⟩
      by_cases hm : r = -1
      · rw [if_pos hm]
        exact nx _ f (by omega) (by omega) (hr.take hs (by omega) (Or.inl hm))
      rw [if_neg hm]
      rcases id hr with ⟨e, -⟩ | ⟨j, hj, e, -⟩
      · exact absurd e hm
      subst e
      simp only [rd_nI (show j < 200 by omega) (by decide)]
      by_cases h6 : σ.2.1 11 i < σ.2.1 11 j
      · rw [if_pos h6]
        exact nx _ f (by omega) (by omega) (hr.keep (by omega) ⟨hj, rfl⟩ h6)
      · rw [if_neg h6]
        exact nx _ f (by omega) (by omega) (hr.take hs (by omega) (Or.inr ⟨j, hj, rfl, h6⟩))
  obtain ⟨r, h1, h2⟩ := key K 0 (-1) 100000 (by omega) (by omega) LastP.zero
  exact ⟨r, h1, h2⟩
def SWed (σ : MS) (p day : Int32) (i : Nat) : Prop := σ.2.1 43 i ≠ 0 ∧ σ.2.1 8 i = 1 ∧ (σ.2.1 9 i = p ∨ σ.2.1 10 i = p) ∧ σ.2.1 11 i ≤ day
theorem M_lastWedding_spec (σ : MS) {K : Nat} (hK : σ.1 45 = nI K) (hK2 : K ≤ 200) (p day : Int32) : ∃ r, M_lastWedding σ p day = some r ∧ LastP (SWed σ p day) K (σ.2.1 11) r := by
  have key : ∀ (m i : Nat) (r : Int32) (fu : Nat), i + m = K → m < fu → LastP (SWed σ p day) i (σ.2.1 11) r → ∃ r', M_lastWedding_L5_r σ fu p day r (nI i) = some r' ∧ LastP (SWed σ p day) K (σ.2.1 11) r' := by
    intro m
    induction m with
    | zero =>
      intro i r fu hi hf hr
      obtain ⟨f, rfl, -⟩ := fuel hf
      have hi : i = K := by omega
      subst hi
      exact ⟨r, by rw [M_lastWedding_L5_r, hK, if_pos (Int32.le_refl _)], hr⟩
    | succ m ih =>
      intro i r fu hi hf hr
      obtain ⟨f, rfl, hf2⟩ := fuel hf
      have hlt : i < 200 := by omega
      have nx := ih (i + 1)
      rw [← nI_1] at nx
      have skip : ¬ SWed σ p day i → ∃ r', M_lastWedding_L5_r σ f p day r (nI i + 1) = some r' ∧ LastP (SWed σ p day) K (σ.2.1 11) r' := fun hs => nx r f (by omega) (by omega) (hr.skip hs)
      have last : σ.2.1 43 i ≠ 0 → σ.2.1 8 i = 1 → (σ.2.1 9 i = p ∨ σ.2.1 10 i = p) → ∃ r', M_lastWedding_J57 (M_lastWedding_L5_r σ f) σ p day r (nI i) = some r' ∧ LastP (SWed σ p day) K (σ.2.1 11) r' := by
        intro h1 h2 h3
        simp only [M_lastWedding_J57, rd_nI hlt (by decide), M_lastWedding_J72, M_lastWedding_J73, M_lastWedding_J106, M_lastWedding_J101, M_lastWedding_J107, if_true]
        by_cases h5 : day < σ.2.1 11 i
        · rw [if_pos h5]; exact skip fun g => by have := g.2.2.2; rw [i32_lt] at h5; rw [i32_le] at this; omega
        rw [if_neg h5, if_neg (by decide)]
        have hs : SWed σ p day i := ⟨h1, h2, h3, by rw [i32_lt] at h5; rw [i32_le]; omega⟩
        by_cases hm : r = -1
        · rw [if_pos hm]
          exact nx _ f (by omega) (by omega) (hr.take hs (by omega) (Or.inl hm))
        rw [if_neg hm]
        rcases id hr with ⟨e, -⟩ | ⟨j, hj, e, -⟩
        · exact absurd e hm
        subst e
        simp only [rd_nI (show j < 200 by omega) (by decide)]
        by_cases h6 : σ.2.1 11 i < σ.2.1 11 j
        · rw [if_pos h6]
          exact nx _ f (by omega) (by omega) (hr.keep (by omega) ⟨hj, rfl⟩ h6)
        · rw [if_neg h6]
          exact nx _ f (by omega) (by omega) (hr.take hs (by omega) (Or.inr ⟨j, hj, rfl, h6⟩))
      rw [M_lastWedding_L5_r, hK, if_neg (nI_ge (by omega) (by omega))]
      simp only [rd_nI hlt (by decide), M_lastWedding_J72, M_lastWedding_J73, M_lastWedding_J106, M_lastWedding_J107, if_true]
      by_cases h1 : σ.2.1 43 i = 0
      · rw [if_pos h1]; exact skip fun g => g.1 h1
      rw [if_neg h1]
      by_cases h2 : σ.2.1 8 i = 1
      case neg => rw [if_neg h2]; exact skip fun g => h2 g.2.1
      rw [if_pos h2]
      by_cases h3 : σ.2.1 9 i = p
      · rw [if_pos h3]; exact last h1 h2 (Or.inl h3)
      rw [if_neg h3]
      by_cases h4 : σ.2.1 10 i = p
      · rw [if_pos h4]; exact last h1 h2 (Or.inr h4)
      rw [if_neg h4]; exact skip fun g => g.2.2.1.elim h3 h4
  obtain ⟨r, h1, h2⟩ := key K 0 (-1) 100000 (by omega) (by omega) LastP.zero
  exact ⟨r, h1, h2⟩
theorem M_weddings_spec (σ : MS) {K : Nat} (hK : σ.1 45 = nI K) (hK2 : K ≤ 200) (p day : Int32) : M_weddings σ p day = some (nI (fl (SWed σ p day) K).length) := by
  have key : ∀ (m i : Nat) (fu : Nat), i + m = K → m < fu → M_weddings_L5_r σ fu p day (nI (fl (SWed σ p day) i).length) (nI i) = some (nI (fl (SWed σ p day) K).length) := by
    intro m
    induction m with
    | zero =>
      intro i fu hi hf
      obtain ⟨f, rfl, -⟩ := fuel hf
      have hi : i = K := by omega
      subst hi
      rw [M_weddings_L5_r, hK, if_pos (Int32.le_refl _)]
    | succ m ih =>
      intro i fu hi hf
      obtain ⟨f, rfl, hf2⟩ := fuel hf
      have hlt : i < 200 := by omega
      have nx := ih (i + 1) f (by omega) (by omega)
      rw [← nI_1] at nx
      have skip : ¬ SWed σ p day i → M_weddings_L5_r σ f p day (nI (fl (SWed σ p day) i).length + 0) (nI i + 1) = some (nI (fl (SWed σ p day) K).length) := fun hs => by
        rw [fl_neg hs] at nx
        rw [Int32.add_zero]; exact nx
      have last : σ.2.1 43 i ≠ 0 → σ.2.1 8 i = 1 → (σ.2.1 9 i = p ∨ σ.2.1 10 i = p) → M_weddings_J58 (M_weddings_L5_r σ f) σ p day (nI i) (nI (fl (SWed σ p day) i).length) = some (nI (fl (SWed σ p day) K).length) := by
        intro h1 h2 h3
        simp only [M_weddings_J58, rd_nI hlt (by decide), M_weddings_J73, M_weddings_J74]
        by_cases h5 : day < σ.2.1 11 i
        · rw [if_pos h5]; exact skip fun g => by have := g.2.2.2; rw [i32_lt] at h5; rw [i32_le] at this; omega
        rw [if_neg h5]
        rw [fl_pos ⟨h1, h2, h3, by rw [i32_lt] at h5; rw [i32_le]; omega⟩, List.length_append, List.length_singleton, ← nI_1] at nx
        exact nx
      rw [M_weddings_L5_r, hK, if_neg (nI_ge (by omega) (by omega))]
      simp only [rd_nI hlt (by decide), M_weddings_J73, M_weddings_J74]
      by_cases h1 : σ.2.1 43 i = 0
      · rw [if_pos h1]; exact skip fun g => g.1 h1
      rw [if_neg h1]
      by_cases h2 : σ.2.1 8 i = 1
      case neg => rw [if_neg h2]; exact skip fun g => h2 g.2.1
      rw [if_pos h2]
      by_cases h3 : σ.2.1 9 i = p
      · rw [if_pos h3]; exact last h1 h2 (Or.inl h3)
      rw [if_neg h3]
      by_cases h4 : σ.2.1 10 i = p
      · rw [if_pos h4]; exact last h1 h2 (Or.inr h4)
      rw [if_neg h4]; exact skip fun g => g.2.2.1.elim h3 h4
  exact key K 0 100000 (by omega) (by omega)
/-- the least of the days of the entries with S; -1: none -/
def MinD (S : Nat → Prop) (K : Nat) (d : Nat → Int32) (r : Int32) : Prop := (r = -1 ∧ ∀ i, i < K → ¬ S i) ∨ ∃ i, i < K ∧ S i ∧ r = d i ∧ ∀ j, j < K → S j → d i ≤ d j
theorem MinD.skip {S : Nat → Prop} {K : Nat} {d : Nat → Int32} {r : Int32} (h : MinD S K d r) (hs : ¬ S K) : MinD S (K + 1) d r := by
  rcases h with ⟨rfl, h⟩ | ⟨i, hi, hs', e, h⟩
  · exact Or.inl ⟨rfl, fun i hi => by
      rcases Nat.lt_or_eq_of_le (Nat.le_of_lt_succ hi) with g | rfl
      · exact h i g
      · exact hs⟩
  · exact Or.inr ⟨i, by omega, hs', e, fun j hj g => by
      rcases Nat.lt_or_eq_of_le (Nat.le_of_lt_succ hj) with g2 | rfl
      · exact h j g2 g
      · exact absurd g hs⟩
def SJoin (σ : MS) (p day : Int32) (i : Nat) : Prop := σ.2.1 43 i ≠ 0 ∧ σ.2.1 8 i = 2 ∧ σ.2.1 9 i = p ∧ σ.2.1 11 i ≤ day
theorem M_firstJoined_spec (σ : MS) {K : Nat} (hK : σ.1 45 = nI K) (hK2 : K ≤ 200) (hd : ∀ i, i < K → σ.2.1 43 i ≠ 0 → 0 ≤ (σ.2.1 11 i).toInt) (p day : Int32) : ∃ r, M_firstJoined σ p day = some r ∧ MinD (SJoin σ p day) K (σ.2.1 11) r := by
  have key : ∀ (m i : Nat) (r : Int32) (fu : Nat), i + m = K → m < fu → MinD (SJoin σ p day) i (σ.2.1 11) r → ∃ r', M_firstJoined_L5_r σ fu p day r (nI i) = some r' ∧ MinD (SJoin σ p day) K (σ.2.1 11) r' := by
    intro m
    induction m with
    | zero =>
      intro i r fu hi hf hr
      obtain ⟨f, rfl, -⟩ := fuel hf
      have hi : i = K := by omega
      subst hi
      exact ⟨r, by rw [M_firstJoined_L5_r, hK, if_pos (Int32.le_refl _)], hr⟩
    | succ m ih =>
      intro i r fu hi hf hr
      obtain ⟨f, rfl, hf2⟩ := fuel hf
      have hlt : i < 200 := by omega
      have nx := fun r => ih (i + 1) r f (by omega) (by omega)
      rw [← nI_1] at nx
      have skip : ¬ SJoin σ p day i → ∃ r', M_firstJoined_L5_r σ f p day r (nI i + 1) = some r' ∧ MinD (SJoin σ p day) K (σ.2.1 11) r' := fun hs => nx r (hr.skip hs)
      rw [M_firstJoined_L5_r, hK, if_neg (nI_ge (by omega) (by omega))]
      simp only [rd_nI hlt (show 200 < 2 ^ 31 by decide), M_firstJoined_J61, M_firstJoined_J62, M_firstJoined_J95, M_firstJoined_J85, M_firstJoined_J96, if_true]
      by_cases h1 : σ.2.1 43 i = 0
      · rw [if_pos h1]; exact skip fun g => g.1 h1
      rw [if_neg h1]
      by_cases h2 : σ.2.1 8 i = 2
      case neg => rw [if_neg h2]; exact skip fun g => h2 g.2.1
      rw [if_pos h2]
      by_cases h3 : σ.2.1 9 i = p
      case neg => rw [if_neg h3]; exact skip fun g => h3 g.2.2.1
      rw [if_pos h3]
      by_cases h5 : day < σ.2.1 11 i
      · rw [if_pos h5]; exact skip fun g => by have := g.2.2.2; rw [i32_lt] at h5; rw [i32_le] at this; omega
      rw [if_neg h5, if_neg (by decide)]
      have hs : SJoin σ p day i := ⟨h1, h2, h3, by rw [i32_lt] at h5; rw [i32_le]; omega⟩
      have d0 := hd i (by omega) h1
      by_cases hm : r = -1
      · rw [if_pos hm]
        refine nx _ (Or.inr ⟨i, by omega, hs, rfl, fun j hj g => ?_⟩)
        rcases hr with ⟨-, hn⟩ | ⟨i', hi', hs', e, -⟩
        · rcases Nat.lt_or_eq_of_le (Nat.le_of_lt_succ hj) with g2 | rfl
          · exact absurd g (hn j g2)
          · exact Int32.le_refl _
        · exfalso
          have := hd i' (by omega) hs'.1
          rw [hm] at e
          rw [← e, lit_m1] at this
          omega
      rw [if_neg hm]
      rcases id hr with ⟨e, -⟩ | ⟨j, hj, hsj, e, hl⟩
      · exact absurd e hm
      by_cases h6 : r ≤ σ.2.1 11 i
      · rw [if_pos h6]
        refine nx _ (Or.inr ⟨j, by omega, hsj, e, fun j' hj' g => ?_⟩)
        rcases Nat.lt_or_eq_of_le (Nat.le_of_lt_succ hj') with g2 | rfl
        · exact hl j' g2 g
        · rw [← e]; exact h6
      · rw [if_neg h6]
        refine nx _ (Or.inr ⟨i, by omega, hs, rfl, fun j' hj' g => ?_⟩)
        rcases Nat.lt_or_eq_of_le (Nat.le_of_lt_succ hj') with g2 | rfl
        · have := hl j' g2 g
          rw [← e] at this
          rw [i32_le] at this h6 ⊢
          omega
        · exact Int32.le_refl _
  obtain ⟨r, h1, h2⟩ := key K 0 (-1) 100000 (by omega) (by omega) (Or.inl ⟨rfl, fun _ h => absurd h (Nat.not_lt_zero _)⟩)
  exact ⟨r, h1, h2⟩
def SPaid (σ : MS) (p year : Int32) (i : Nat) : Prop := σ.2.1 43 i ≠ 0 ∧ σ.2.1 8 i = 6 ∧ σ.2.1 9 i = p ∧ σ.2.1 11 i / 100 = year
theorem M_paidBy_spec (σ : MS) {K : Nat} (hK : σ.1 45 = nI K) (hK2 : K ≤ 200) (p year : Int32) : M_paidBy σ p year = some (Int32.ofInt (sumL (fun e => (σ.2.1 10 e).toInt) (fl (SPaid σ p year) K))) := by
  have key : ∀ (m i : Nat) (fu : Nat), i + m = K → m < fu → M_paidBy_L5_r σ fu p year (Int32.ofInt (sumL (fun e => (σ.2.1 10 e).toInt) (fl (SPaid σ p year) i))) (nI i) = some (Int32.ofInt (sumL (fun e => (σ.2.1 10 e).toInt) (fl (SPaid σ p year) K))) := by
    intro m
    induction m with
    | zero =>
      intro i fu hi hf
      obtain ⟨f, rfl, -⟩ := fuel hf
      have hi : i = K := by omega
      subst hi
      rw [M_paidBy_L5_r, hK, if_pos (Int32.le_refl _)]
    | succ m ih =>
      intro i fu hi hf
      obtain ⟨f, rfl, hf2⟩ := fuel hf
      have hlt : i < 200 := by omega
      have nx := ih (i + 1) f (by omega) (by omega)
      rw [← nI_1] at nx
      have skip : ¬ SPaid σ p year i → M_paidBy_L5_r σ f p year (Int32.ofInt (sumL (fun e => (σ.2.1 10 e).toInt) (fl (SPaid σ p year) i)) + 0) (nI i + 1) = some (Int32.ofInt (sumL (fun e => (σ.2.1 10 e).toInt) (fl (SPaid σ p year) K))) := fun hs => by
        rw [fl_neg hs] at nx
        rw [Int32.add_zero]; exact nx
      rw [M_paidBy_L5_r, hK, if_neg (nI_ge (by omega) (by omega))]
      simp only [rd_nI hlt (show 200 < 2 ^ 31 by decide), M_paidBy_J72, M_paidBy_J73, M_yearOf, Option.bind_some]
      by_cases h1 : σ.2.1 43 i = 0
      · rw [if_pos h1]; exact skip fun g => g.1 h1
      rw [if_neg h1]
      by_cases h2 : σ.2.1 8 i = 6
      case neg => rw [if_neg h2]; exact skip fun g => h2 g.2.1
      rw [if_pos h2]
      by_cases h3 : σ.2.1 9 i = p
      case neg => rw [if_neg h3]; exact skip fun g => h3 g.2.2.1
      rw [if_pos h3]
      by_cases h4 : σ.2.1 11 i / 100 = year
      case neg => rw [if_neg h4]; exact skip fun g => h4 g.2.2.2
      rw [if_pos h4]
      rw [fl_pos ⟨h1, h2, h3, h4⟩, sumL_app, sumL_one, Int32.ofInt_add, Int32.ofInt_toInt] at nx
      exact nx
  exact key K 0 100000 (by omega) (by omega)
