/-! digits and numbers -/
theorem digit_or {n : Nat} {T : Nat → Int32} (hT : TpOK n T) (k : Nat) : (∃ c, 48 ≤ c ∧ c ≤ 57 ∧ k < n ∧ bt n T k = nI c ∧ (∀ τ : XS, Tp_isDigit τ (bt n T k) = some 1) ∧ ∀ a w σ, MR a n T k w σ → M_isDigit σ = some 1) ∨ ((∀ τ : XS, Tp_isDigit τ (bt n T k) = some 0) ∧ ∀ a w σ, MR a n T k w σ → M_isDigit σ = some 0) := by
  have main : (∃ c, 48 ≤ c ∧ c ≤ 57 ∧ k < n ∧ bt n T k = nI c) ∨ bt n T k < 48 ∨ (¬ bt n T k < 48 ∧ 57 < bt n T k) := by
    rcases bt_nat hT k with ⟨-, e⟩ | ⟨c, h1, h2, e⟩
    · rw [e]; exact Or.inr (Or.inl (by decide))
    · rw [e]
      by_cases a : c < 48
      · exact Or.inr (Or.inl (nI_lt (b := 48) a (by decide)))
      · by_cases b : 57 < c
        · exact Or.inr (Or.inr ⟨fun g => a ((nI_ltI (b := 48) (by omega) (by decide)).mp g), nI_lt (a := 57) b (by omega)⟩)
        · exact Or.inl ⟨c, by omega, by omega, h2, rfl⟩
  rcases main with ⟨c, h1, h2, h3, h4⟩ | h | ⟨h, h'⟩
  · have g1 : ¬ bt n T k < 48 := by rw [h4]; exact fun g => by have := (nI_ltI (b := 48) (by omega) (by decide)).mp g; omega
    have g2 : ¬ (57 : Int32) < bt n T k := by rw [h4]; exact fun g => by have := (nI_ltI (a := 57) (by decide) (by omega)).mp g; omega
    refine Or.inl ⟨c, h1, h2, h3, h4, fun τ => ?_, fun a w σ hm => ?_⟩
    · unfold Tp_isDigit; rw [if_neg g1, if_neg g2]
    · unfold M_isDigit M_in; rw [hm.byte hT, bind_so, if_neg g1, if_neg g2, bind_so, bz_1]
  · refine Or.inr ⟨fun τ => ?_, fun a w σ hm => ?_⟩
    · unfold Tp_isDigit; rw [if_pos h]
    · unfold M_isDigit M_in; rw [hm.byte hT, bind_so, if_pos h, bind_so, bz_0]
  · refine Or.inr ⟨fun τ => ?_, fun a w σ hm => ?_⟩
    · unfold Tp_isDigit; rw [if_neg h, if_pos h']
    · unfold M_isDigit M_in; rw [hm.byte hT, bind_so, if_neg h, if_pos h', bind_so, bz_0]
theorem num_loop {n : Nat} {T : Nat → Int32} (hT : TpOK n T) : ∀ (d x k fu fu' : Nat), ((d = 3 ∧ x ≤ 9) ∨ (d = 2 ∧ x ≤ 99) ∨ (d = 1 ∧ x ≤ 999) ∨ (d = 0 ∧ x ≤ 9999)) → 0 < x → k ≤ n → d < fu → d < fu' → ∃ v k', k ≤ k' ∧ k' ≤ n ∧ v ≤ 9999 ∧ (∀ a σ, MR a n T k 0 σ → ∃ σ', M_number_L20_r fu σ (nI x) (nI (4 - d)) = some (nI v, σ') ∧ Lk σ σ' ∧ MR a n T k' 0 σ') ∧ (∀ τ0 h st cd τ, Qc τ0 h n T k st cd τ → ∃ τ', Tp_readNumber_L26_r fu' τ (nI x) (nI (4 - d)) = some (nI v, τ') ∧ Qc τ0 h n T k' st cd τ') := by
  intro d
  induction d with
  | zero =>
    intro x k fu fu' hx h0 hk hf hf'
    obtain ⟨f, rfl, -⟩ := fuel hf
    obtain ⟨f', rfl, -⟩ := fuel hf'
    exact ⟨x, k, Nat.le_refl _, hk, by omega, fun a σ h => ⟨σ, by rw [M_number_L20_r, if_pos (show (4 : Int32) ≤ nI (4 - 0) by decide)], Lk.rfl, h⟩, fun τ0 h st cd τ q => ⟨τ, by rw [Tp_readNumber_L26_r, if_pos (show (4 : Int32) ≤ nI (4 - 0) by decide)], q⟩⟩
  | succ d ih =>
    intro x k fu fu' hx h0 hk hf hf'
    obtain ⟨f, rfl, hf2⟩ := fuel hf
    obtain ⟨f', rfl, hf2'⟩ := fuel hf'
    have n4 : ¬ (4 : Int32) ≤ nI (4 - (d + 1)) := fun g => by have := (nI_leI (a := 4) (by decide) (by omega)).mp g; omega
    have nx : ¬ nI x ≤ 0 := fun g => by have := (nI_leI (b := 0) (by omega) (by decide)).mp g; omega
    rcases digit_or hT k with ⟨c, c1, c2, c3, c4, c5, c6⟩ | ⟨c5, c6⟩
    · have ev : ((10 : Int32) * nI x + bt n T k) - 48 = nI (10 * x + c - 48) := by
        rw [c4, show (10 : Int32) = nI 10 from rfl, nI_mul, nI_add, show (48 : Int32) = nI 48 from rfl, nI_sub (by omega)]
      have e4 : nI (4 - (d + 1)) + 1 = nI (4 - d) := by rw [nI_1]; congr 1; omega
      obtain ⟨v, k', i1, i2, i3, i4, i5⟩ := ih (10 * x + c - 48) (k + 1) f f' (by omega) (by omega) (by omega) (by omega) (by omega)
      refine ⟨v, k', by omega, i2, i3, fun a σ h => ?_, fun τ0 h st cd τ q => ?_⟩
      · obtain ⟨σ', j1, j2, j3⟩ := i4 a _ (h.go c3)
        refine ⟨σ', ?_, (Lk.i (by simp)).trans j2, j3⟩
        rw [M_number_L20_r, if_neg n4, if_neg nx, c6 a 0 σ h, bind_so, if_neg n10, h.byte hT, bind_so, ev, e4]
        exact j1
      · obtain ⟨τ', j1, j2⟩ := i5 τ0 h st cd _ (q.go c3)
        refine ⟨τ', ?_, j2⟩
        rw [Tp_readNumber_L26_r, if_neg n4, q.2.1.next hT, bind_so, c5, bind_so, if_neg n10, bind_so, ev, e4]
        exact j1
    · refine ⟨x, k, Nat.le_refl _, hk, by omega, fun a σ h => ⟨σ, ?_, Lk.rfl, h⟩, fun τ0 h st cd τ q => ⟨τ, ?_, q⟩⟩
      · rw [M_number_L20_r, if_neg n4, if_neg nx, c6 a 0 σ h, bind_so, if_pos rfl]
      · rw [Tp_readNumber_L26_r, if_neg n4, q.2.1.next hT, bind_so, c5, bind_so, if_pos rfl]
theorem num_spec {n k c : Nat} {T : Nat → Int32} (hT : TpOK n T) (c1 : 48 ≤ c) (c2 : c ≤ 57) (hk : k < n) (hb : bt n T k = nI c) : ∃ v k', k < k' ∧ k' ≤ n ∧ v ≤ 9999 ∧ (∀ a σ, MR a n T k 0 σ → ∃ σ', M_number σ = some (nI v, σ') ∧ Lk σ σ' ∧ MR a n T k' 0 σ') ∧ (∀ τ0 h st cd τ, Qc τ0 h n T k st cd τ → ∃ τ', Tp_readNumber τ = some (nI v, τ') ∧ Qc τ0 h n T k' st cd τ') := by
  have e48 : nI c - 48 = nI (c - 48) := by rw [show (48 : Int32) = nI 48 from rfl, nI_sub c1]
  by_cases z : c = 48
  · subst z
    refine ⟨0, k + 1, by omega, hk, by omega, fun a σ h => ⟨sI σ 47 (σ.1 47 + 1), ?_, Lk.i (by simp), h.go hk⟩, fun τ0 h st cd τ q => ⟨xI τ 702 (τ.1 702 + 1), ?_, q.go hk⟩⟩
    · unfold M_number M_number_L20
      rw [h.byte hT, bind_so, hb]
      obtain ⟨f, hf, -⟩ := fuel (show 0 < 100000 by decide)
      rw [hf, M_number_L20_r, if_neg (by decide), if_pos (by decide)]
      rfl
    · unfold Tp_readNumber
      rw [q.2.1.next hT, bind_so, hb, if_pos (by decide)]
      rfl
  · obtain ⟨v, k', i1, i2, i3, i4, i5⟩ := num_loop hT 3 (c - 48) (k + 1) 100000 100000 (by omega) (by omega) hk (by decide) (by decide)
    refine ⟨v, k', by omega, i2, i3, fun a σ h => ?_, fun τ0 h st cd τ q => ?_⟩
    · obtain ⟨σ', j1, j2, j3⟩ := i4 a _ (h.go hk)
      refine ⟨σ', ?_, (Lk.i (by simp)).trans j2, j3⟩
      unfold M_number M_number_L20
      rw [h.byte hT, bind_so, hb, e48]
      exact j1
    · obtain ⟨τ', j1, j2⟩ := i5 τ0 h st cd _ (q.go hk)
      refine ⟨τ', ?_, j2⟩
      unfold Tp_readNumber Tp_readNumber_L26
      rw [q.2.1.next hT, bind_so, hb, e48, if_neg (fun g => by have := (nI_eq (b := 0) (by omega) (by decide)).mp g; omega)]
      exact j1
