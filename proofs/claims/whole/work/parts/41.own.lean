/-! the fund's own dead, age by age -/
theorem dieF_is {σ : MS} {St : Nat → Prop} {p : Nat} : ∀ k, dieF St (σ.2.1 8) (σ.2.1 9) (σ.2.1 11) p k = 10000 ∨ ∃ i, i < k ∧ σ.2.1 8 i = 0 ∧ σ.2.1 9 i = nI p ∧ dieF St (σ.2.1 8) (σ.2.1 9) (σ.2.1 11) p k = σ.2.1 11 i := by
  intro k
  induction k with
  | zero => exact Or.inl rfl
  | succ k ih =>
    by_cases c : St k ∧ σ.2.1 8 k = 0 ∧ σ.2.1 9 k = nI p
    · exact Or.inr ⟨k, Nat.lt_succ_self _, c.2.1, c.2.2, dieF_pos c⟩
    · rw [dieF_neg c]
      rcases ih with g | ⟨i, g1, g2⟩
      · exact Or.inl g
      · exact Or.inr ⟨i, by omega, g2⟩
theorem view_dies {σ : MS} {τ : XS} {np ne K : Nat} {bl : List Nat} {s d : Nat → Int32} (hP : PplI σ τ np) (hB : BkI σ τ np ne bl) (hK : K ≤ ne) {e : Int32} (he : (e = -1 ∧ K = ne) ∨ (e ≠ -1 ∧ e = nI K)) (q1 : M_looks σ e = some ((), lookM σ K s d)) : ∀ p, p < np → d p = 10000 ∨ (DayOk (d p) ∧ (σ.2.1 3 p).toInt ≤ (d p).toInt) := by
  obtain ⟨p1, p2, p3, -⟩ := hP
  obtain ⟨b1, b2, b3, b4, b5, b6, b7, b8, b9, -⟩ := hB
  have hM : BookM σ K np := ⟨by omega, p1, p2, fun i hi h7 => by
    rcases b9 i (by omega) with ⟨-, j, hj, ej, -⟩ | ⟨⟨k, hk, ek⟩, -⟩
    · exact ⟨j, by omega, ej⟩
    · rw [ek] at h7
      rw [show (7 : Int32) = nI 7 from rfl, nI_eq (by omega) (by omega)] at h7; omega, fun i hi h0 => by
    obtain ⟨-, -, p, hp, ep, -⟩ := (b9 i (by omega)).dat (by rw [h0]; decide)
    exact ⟨p, hp, ep⟩⟩
  obtain ⟨s', d', g1, g2, g3⟩ := M_looks_spec hM (e := e) (by
    rcases he with ⟨h1, h2⟩ | h
    · exact Or.inl ⟨h1, by rw [h2]; exact b2⟩
    · exact Or.inr h)
  rw [q1] at g1
  have ed : d = d' := by
    have h := Option.some.inj g1
    have h2 := congrArg (fun z => z.2.2.1 44) h
    dsimp only at h2
    rw [lookM_d, lookM_d] at h2
    exact h2
  intro p hp
  rw [ed, g3 p hp]
  rcases dieF_is (σ := σ) (St := StM σ K) (p := p) K with g | ⟨i, i1, i2, i3, i4⟩
  · exact Or.inl g
  · refine Or.inr ?_
    rw [i4]
    obtain ⟨-, t1, q, hq, eq, t2, -⟩ := (b9 i (by omega)).dat (by rw [i2]; decide)
    rw [i3] at eq
    have : p = q := (nI_eq (by omega) (by omega)).mp eq
    subst this
    exact ⟨t1, t2⟩
theorem nI_len {S : Nat → Prop} {k : Nat} (h : S k) : nI (fl S k).length + 1 = nI (fl S (k + 1)).length := by rw [fl_pos h, List.length_append, List.length_singleton, nI_1]
theorem nI_len' {S : Nat → Prop} {k : Nat} (h : ¬ S k) : nI (fl S k).length = nI (fl S (k + 1)).length := by rw [fl_neg h]
theorem fl_or {S T : Nat → Prop} : ∀ k, (∀ i, i < k → ¬ (S i ∧ T i)) → (fl (fun i => S i ∨ T i) k).length = (fl S k).length + (fl T k).length := by
  intro k
  induction k with
  | zero => intro _; rfl
  | succ k ih =>
    intro h
    have g := ih fun i hi => h i (by omega)
    have hk := h k (Nat.lt_succ_self _)
    by_cases c : S k
    · have c2 : ¬ T k := fun t => hk ⟨c, t⟩
      rw [fl_pos (S := fun i => S i ∨ T i) (Or.inl c), fl_pos c, fl_neg c2, List.length_append, List.length_append, List.length_singleton, g]
      omega
    · by_cases c2 : T k
      · rw [fl_pos (S := fun i => S i ∨ T i) (Or.inr c2), fl_neg c, fl_pos c2, List.length_append, List.length_append, List.length_singleton, g]
        omega
      · rw [fl_neg (S := fun i => S i ∨ T i) (fun t => t.elim c c2), fl_neg c, fl_neg c2, g]
section OWN
variable {A : MS → XS → Prop}
/-- a person died at the age, by the day -/
def DiedAt (σ : MS) (a1 a2 : Int32) (p : Nat) : Prop := ¬ a2 < σ.2.1 44 p ∧ M_ageOf σ (nI p) (σ.2.1 44 p) = some a1
/-- a person lived through the year of the age, by the day -/
def Through (σ : MS) (a1 a2 : Int32) (p : Nat) : Prop := ¬ a2 < (σ.2.1 3 p + 100 * a1) + 99 ∧ ¬ σ.2.1 44 p ≤ (σ.2.1 3 p + 100 * a1) + 99
theorem own_t {b c : Int32} : ((b + c) + 100) - 1 = (b + c) + 99 := by
  rw [Int32.sub_eq_add_neg, Int32.add_assoc (b + c)]
  rfl
theorem M_own_spec {σ : MS} {np : Nat} (h24 : np ≤ 24) (h1 : σ.1 1 = nI np) (hage : ∀ p, p < np → ∃ v, M_ageOf σ (nI p) (σ.2.1 44 p) = some v) {a1 a2 a4 : Int32} (hd : a2 < 10000) : M_own_L51 100000 σ a1 a2 a4 0 0 = some (nI (fl (fun p => DiedAt σ a1 a2 p ∨ (a4 = 1 ∧ Through σ a1 a2 p)) np).length, σ) := by
  have key : ∀ (m k fu : Nat), k + m = np → m < fu → M_own_L51_r fu σ a1 a2 a4 (nI (fl (fun p => DiedAt σ a1 a2 p ∨ (a4 = 1 ∧ Through σ a1 a2 p)) k).length) (nI k) = some (nI (fl (fun p => DiedAt σ a1 a2 p ∨ (a4 = 1 ∧ Through σ a1 a2 p)) np).length, σ) := by
    intro m
    induction m with
    | zero =>
      intro k fu hk hf
      obtain ⟨f, rfl, -⟩ := fuel hf
      have hk : k = np := by omega
      subst hk
      rw [M_own_L51_r, h1, if_pos (Int32.le_refl _)]
    | succ m ih =>
      intro k fu hk hf
      obtain ⟨f, rfl, hf2⟩ := fuel hf
      have nx := ih (k + 1) f (by omega) (by omega)
      have k24 : k < 24 := by omega
      rw [M_own_L51_r, h1, if_neg (by rw [nI_leI (by omega) (by omega)]; omega)]
      simp only [rd_nI k24 (show 24 < 2 ^ 31 by decide)]
      have one : (DiedAt σ a1 a2 k ∨ (a4 = 1 ∧ Through σ a1 a2 k)) → M_own_L51_r f σ a1 a2 a4 (nI (fl (fun p => DiedAt σ a1 a2 p ∨ (a4 = 1 ∧ Through σ a1 a2 p)) k).length + 1) (nI k + 1) = some (nI (fl (fun p => DiedAt σ a1 a2 p ∨ (a4 = 1 ∧ Through σ a1 a2 p)) np).length, σ) := by
        intro hs
        rw [nI_len (S := fun p => DiedAt σ a1 a2 p ∨ (a4 = 1 ∧ Through σ a1 a2 p)) hs, nI_1]
        exact nx
      have two : ¬ (DiedAt σ a1 a2 k ∨ (a4 = 1 ∧ Through σ a1 a2 k)) → M_own_L51_r f σ a1 a2 a4 (nI (fl (fun p => DiedAt σ a1 a2 p ∨ (a4 = 1 ∧ Through σ a1 a2 p)) k).length + 0) (nI k + 1) = some (nI (fl (fun p => DiedAt σ a1 a2 p ∨ (a4 = 1 ∧ Through σ a1 a2 p)) np).length, σ) := by
        intro hs
        rw [Int32.add_zero, nI_len' (S := fun p => DiedAt σ a1 a2 p ∨ (a4 = 1 ∧ Through σ a1 a2 p)) hs, nI_1]
        exact nx
      have j0 : ¬ DiedAt σ a1 a2 k → M_own_J122 (M_own_L51_r f) σ a1 a2 a4 (nI (fl (fun p => DiedAt σ a1 a2 p ∨ (a4 = 1 ∧ Through σ a1 a2 p)) k).length) (nI k) ((σ.2.1 3 k + 100 * a1) + 99) = some (nI (fl (fun p => DiedAt σ a1 a2 p ∨ (a4 = 1 ∧ Through σ a1 a2 p)) np).length, σ) := by
        intro hD
        unfold M_own_J122 M_own_J123 M_own_J147 M_own_J148 M_own_J168 M_own_J172 M_own_J173
        rw [rd_nI k24 (by decide)]
        by_cases c1 : a2 < (σ.2.1 3 k + 100 * a1) + 99
        · rw [if_pos c1, if_pos rfl]
          have hT : ¬ (DiedAt σ a1 a2 k ∨ (a4 = 1 ∧ Through σ a1 a2 k)) := fun g => g.elim hD fun t => t.2.1 c1
          by_cases c4 : a4 = 1
          · rw [if_pos c4, if_pos rfl]; exact two hT
          · rw [if_neg c4]; exact two hT
        rw [if_neg c1]
        by_cases c2 : σ.2.1 44 k ≤ (σ.2.1 3 k + 100 * a1) + 99
        · rw [if_pos c2, if_pos rfl]
          have hT : ¬ (DiedAt σ a1 a2 k ∨ (a4 = 1 ∧ Through σ a1 a2 k)) := fun g => g.elim hD fun t => t.2.2 c2
          by_cases c4 : a4 = 1
          · rw [if_pos c4, if_pos rfl]; exact two hT
          · rw [if_neg c4]; exact two hT
        rw [if_neg c2, if_pos rfl]
        by_cases c4 : a4 = 1
        · rw [if_pos c4, if_neg (by decide)]; exact one (Or.inr ⟨c4, c1, c2⟩)
        · rw [if_neg c4]; exact two fun g => g.elim hD fun t => c4 t.1
      by_cases c1 : σ.2.1 44 k = 10000
      · rw [if_pos c1]
        exact j0 fun g => g.1 (by rw [c1]; exact hd)
      rw [if_neg c1]
      by_cases c2 : a2 < σ.2.1 44 k
      · rw [if_pos c2]
        exact j0 fun g => g.1 c2
      rw [if_neg c2]
      obtain ⟨v, hv⟩ := hage k (by omega)
      rw [hv, bind_so]
      by_cases c3 : v = a1
      · rw [if_pos c3]
        have hD : DiedAt σ a1 a2 k := ⟨c2, by rw [hv, c3]⟩
        unfold M_own_J123 M_own_J147 M_own_J148 M_own_J168 M_own_J173
        rw [rd_nI k24 (by decide)]
        by_cases d1 : a2 < (σ.2.1 3 k + 100 * a1) + 99
        · rw [if_pos d1, if_neg (show ¬ (1 : Int32) = 0 by decide)]; exact one (Or.inl hD)
        rw [if_neg d1]
        by_cases d2 : σ.2.1 44 k ≤ (σ.2.1 3 k + 100 * a1) + 99
        · rw [if_pos d2, if_neg (show ¬ (1 : Int32) = 0 by decide)]; exact one (Or.inl hD)
        · rw [if_neg d2, if_neg (show ¬ (1 : Int32) = 0 by decide)]; exact one (Or.inl hD)
      · rw [if_neg c3]
        exact j0 fun g => c3 (Option.some.inj (hv.symm.trans g.2))
  exact key np 0 100000 (by omega) (by omega)
theorem Lv_diedAtAge_spec {σ : MS} {τ : XS} {np : Nat} (h24 : np ≤ 24) (h1 : τ.1 104 = nI np) (hd : ∀ p, p < np → τ.2.1 401 p = σ.2.1 44 p) (hage : ∀ p, p < np → ∃ v, M_ageOf σ (nI p) (σ.2.1 44 p) = some v ∧ Bk_ageOn τ (nI p) (σ.2.1 44 p) = some v) (a1 a2 : Int32) : Lv_diedAtAge τ a1 a2 = some (nI (fl (DiedAt σ a1 a2) np).length) := by
  have key : ∀ (m k fu : Nat), k + m = np → m < fu → Lv_diedAtAge_L5_r τ fu a1 a2 (nI (fl (DiedAt σ a1 a2) k).length) (nI k) = some (nI (fl (DiedAt σ a1 a2) np).length) := by
    intro m
    induction m with
    | zero =>
      intro k fu hk hf
      obtain ⟨f, rfl, -⟩ := fuel hf
      have hk : k = np := by omega
      subst hk
      rw [Lv_diedAtAge_L5_r, h1, if_pos (Int32.le_refl _)]
    | succ m ih =>
      intro k fu hk hf
      obtain ⟨f, rfl, hf2⟩ := fuel hf
      have nx := ih (k + 1) f (by omega) (by omega)
      have k24 : k < 24 := by omega
      rw [Lv_diedAtAge_L5_r, h1, if_neg (by rw [nI_leI (by omega) (by omega)]; omega)]
      simp only [rd_nI k24 (show 24 < 2 ^ 31 by decide), Lv_diedAtAge_J51, hd k (by omega)]
      by_cases c2 : a2 < σ.2.1 44 k
      · rw [if_pos c2, nI_len' (S := DiedAt σ a1 a2) fun g => g.1 c2, nI_1]
        exact nx
      rw [if_neg c2]
      obtain ⟨v, hv, hv2⟩ := hage k (by omega)
      rw [hv2, bind_so]
      by_cases c3 : v = a1
      · rw [if_pos c3, nI_len (S := DiedAt σ a1 a2) ⟨c2, by rw [hv, c3]⟩, nI_1]
        exact nx
      · rw [if_neg c3, nI_len' (S := DiedAt σ a1 a2) fun g => c3 (Option.some.inj (hv.symm.trans g.2)), nI_1]
        exact nx
  exact key np 0 100000 (by omega) (by omega)
theorem Lv_livedThrough_spec {σ : MS} {τ : XS} {np : Nat} (h24 : np ≤ 24) (h1 : τ.1 104 = nI np) (hb : τ.2.1 101 = σ.2.1 3) (hd : ∀ p, p < np → τ.2.1 401 p = σ.2.1 44 p) {a1 : Int32} (hbt : ∀ p, p < np → ¬ (σ.2.1 3 p + 100 * a1) + 99 < σ.2.1 3 p) (a2 : Int32) : Lv_livedThrough τ a1 a2 = some (nI (fl (Through σ a1 a2) np).length) := by
  have key : ∀ (m k fu : Nat), k + m = np → m < fu → Lv_livedThrough_L5_r τ fu a1 a2 (nI (fl (Through σ a1 a2) k).length) (nI k) = some (nI (fl (Through σ a1 a2) np).length) := by
    intro m
    induction m with
    | zero =>
      intro k fu hk hf
      obtain ⟨f, rfl, -⟩ := fuel hf
      have hk : k = np := by omega
      subst hk
      rw [Lv_livedThrough_L5_r, h1, if_pos (Int32.le_refl _)]
    | succ m ih =>
      intro k fu hk hf
      obtain ⟨f, rfl, hf2⟩ := fuel hf
      have nx := ih (k + 1) f (by omega) (by omega)
      have k24 : k < 24 := by omega
      rw [Lv_livedThrough_L5_r, h1, if_neg (by rw [nI_leI (by omega) (by omega)]; omega)]
      simp only [rd_nI k24 (show 24 < 2 ^ 31 by decide), Lv_livedThrough_J59, hb, own_t, Lv_livesOn, hd k (by omega)]
      by_cases c1 : a2 < (σ.2.1 3 k + 100 * a1) + 99
      · rw [if_pos c1, nI_len' (S := Through σ a1 a2) fun g => g.1 c1, nI_1]
        exact nx
      rw [if_neg c1, if_neg (hbt k (by omega))]
      by_cases c2 : σ.2.1 44 k ≤ (σ.2.1 3 k + 100 * a1) + 99
      · rw [if_pos c2, bind_so, if_pos rfl, nI_len' (S := Through σ a1 a2) fun g => g.2 c2, nI_1]
        exact nx
      · rw [if_neg c2, bind_so, if_neg (by decide), nI_len (S := Through σ a1 a2) ⟨c1, c2⟩, nI_1]
        exact nx
  exact key np 0 100000 (by omega) (by omega)
theorem st32 (hA : Stb A) : St32 (InvA A) := by
  intro σ τ xs i h
  have same : InvA A σ τ := h
  obtain ⟨np, ne, bl, hP, hB, hM, ha⟩ := h
  have hP1 := hP.1
  generalize xs (i + 1) = p0
  generalize xs (i + 2) = p1
  generalize xs (i + 3) = p2
  generalize xs (i + 4) = p3
  unfold W_own M_own
  rw [W_isAge_eq, M_in_eq, Bk_isReach_eq hB.2.2.1, M_isBy_eq hB.2.1, M_in_eq, W_isDay_eq, M_isDay_eq, in_if1]
  simp only [bind_so, b01_if]
  by_cases c : 0 ≤ p0 ∧ p0 ≤ 99
  case neg =>
    rw [if_neg c, if_neg c]
    exact ⟨_, _, _, rfl, rfl, same⟩
  rw [if_pos c, if_pos c]
  by_cases c1 : -1 ≤ p2 ∧ p2 ≤ nI ne
  case neg =>
    rw [if_neg c1, if_neg c1]
    exact ⟨_, _, _, rfl, rfl, same⟩
  rw [if_pos c1, if_pos c1]
  by_cases c2 : 0 ≤ p3 ∧ p3 ≤ 1
  case neg =>
    rw [if_neg c2, if_neg c2]
    exact ⟨_, _, _, rfl, rfl, same⟩
  rw [if_pos c2, if_pos c2]
  by_cases c3 : 0 ≤ p1 ∧ p1 ≤ 9999
  case neg =>
    rw [if_neg c3, if_neg c3]
    exact ⟨_, _, _, rfl, rfl, same⟩
  rw [if_pos c3, if_pos c3]
  obtain ⟨K, s, d, d', a, t, l, hK, hk', q1, q2, q3, vw, P', B', M', A'⟩ := InvA.view hA hP hB hM ha c1
  have same' : InvA A (lookM σ K s d) (lookX τ d' a t l) := ⟨np, ne, bl, P', B', M', A'⟩
  have dies := view_dies hP hB hK hk' q1
  rw [q1, q2, bind_pq, bind_pq]
  have d44 : ∀ p, (lookM σ K s d).2.1 44 p = d p := fun p => by rw [lookM_d]
  have d3 : (lookM σ K s d).2.1 3 = σ.2.1 3 := lookM_2 (by decide)
  have hage : ∀ p, p < np → ∃ v, M_ageOf (lookM σ K s d) (nI p) ((lookM σ K s d).2.1 44 p) = some v ∧ Bk_ageOn (lookX τ d' a t l) (nI p) ((lookM σ K s d).2.1 44 p) = some v ∧ v.toInt = (if ((lookM σ K s d).2.1 3 p).toInt ≤ ((lookM σ K s d).2.1 44 p).toInt then (((lookM σ K s d).2.1 44 p).toInt - ((lookM σ K s d).2.1 3 p).toInt) / 100 else 0) := by
    intro p hp
    refine age_eq P' hp ?_
    rw [d44]
    rcases dies p hp with g | ⟨g, -⟩
    · rw [g]; decide
    · unfold DayOk at g; omega
  have x1 := i32_le.mp c.1
  have x2 := i32_le.mp c.2
  rw [show (0 : Int32).toInt = 0 from rfl] at x1
  rw [show (99 : Int32).toInt = 99 from rfl] at x2
  have tv : ∀ p, p < np → (((lookM σ K s d).2.1 3 p + 100 * p0) + 99).toInt = (σ.2.1 3 p).toInt + 100 * p0.toInt + 99 := by
    intro p hp
    have hb := (hP.2.2.2.2.2.2.2 p hp).2.1
    unfold DayOk at hb
    rw [d3, Int32.toInt_add, Int32.toInt_add, Int32.toInt_mul, show (100 : Int32).toInt = 100 from rfl, show (99 : Int32).toInt = 99 from rfl, show (2 : Nat) ^ 32 = 4294967296 from rfl, Int.bmod_eq_of_le (n := 100 * p0.toInt) (by omega) (by omega), Int.bmod_eq_of_le (n := (σ.2.1 3 p).toInt + 100 * p0.toInt) (by omega) (by omega), Int.bmod_eq_of_le (by omega) (by omega)]
  have sM := M_own_spec (σ := lookM σ K s d) (a1 := p0) (a2 := p1) (a4 := p3) hP1 P'.2.1 (fun p hp => by obtain ⟨v, v1, -⟩ := hage p hp; exact ⟨v, v1⟩) (by
    have := i32_le.mp c3.2
    rw [show (9999 : Int32).toInt = 9999 from rfl] at this
    rw [i32_lt, show (10000 : Int32).toInt = 10000 from rfl]; omega)
  have sD := Lv_diedAtAge_spec (σ := lookM σ K s d) (τ := lookX τ d' a t l) hP1 P'.2.2.1 vw.2.2.2.2.2.2.1 (fun p hp => by obtain ⟨v, v1, v2, -⟩ := hage p hp; exact ⟨v, v1, v2⟩) p0 p1
  have sL := Lv_livedThrough_spec (σ := lookM σ K s d) (τ := lookX τ d' a t l) hP1 P'.2.2.1 P'.2.2.2.2.1 vw.2.2.2.2.2.2.1 (a1 := p0) (fun p hp => by
    rw [i32_lt, tv p hp, d3]; omega) p1
  rw [sM, sD, bind_so]
  have ex : ∀ p, p < np → ¬ (DiedAt (lookM σ K s d) p0 p1 p ∧ Through (lookM σ K s d) p0 p1 p) := by
    rintro p hp ⟨g1, g2⟩
    obtain ⟨v, v1, -, v3⟩ := hage p hp
    have : v = p0 := Option.some.inj (v1.symm.trans g1.2)
    have h2 := g2.2
    rw [i32_le, tv p hp] at h2
    rw [this, d3] at v3
    have hb := (hP.2.2.2.2.2.2.2 p hp).2.1
    unfold DayOk at hb
    split at v3 <;> omega
  have y1 := i32_le.mp c2.1
  have y2 := i32_le.mp c2.2
  rw [show (0 : Int32).toInt = 0 from rfl] at y1
  rw [show (1 : Int32).toInt = 1 from rfl] at y2
  by_cases c0 : p3 = 0
  · rw [if_pos c0]
    refine ⟨_, _, _, rfl, ?_, same'⟩
    rw [fl_congr (S' := DiedAt (lookM σ K s d) p0 p1) fun p hp => ⟨fun g => g.elim id fun g => absurd g.1 (by rw [c0]; decide), Or.inl⟩]
  · rw [if_neg c0, sL, bind_so]
    have c1' : p3 = 1 := by
      apply i32_eq.mpr
      rw [i32_eq, show (0 : Int32).toInt = 0 from rfl] at c0
      rw [show (1 : Int32).toInt = 1 from rfl]; omega
    refine ⟨_, _, _, rfl, ?_, same'⟩
    rw [nI_add, ← fl_or np ex, fl_congr (S := fun p => DiedAt (lookM σ K s d) p0 p1 p ∨ (p3 = 1 ∧ Through (lookM σ K s d) p0 p1 p)) (S' := fun p => DiedAt (lookM σ K s d) p0 p1 p ∨ Through (lookM σ K s d) p0 p1 p) fun p hp => ⟨fun g => g.elim Or.inl fun g => Or.inr g.2, fun g => g.elim Or.inl fun g => Or.inr ⟨c1', g⟩⟩]
end OWN
