/-! the easy calls; A is what is told of the acts -/
def Stb (A : MS → XS → Prop) : Prop := ∀ (σ σ' : MS) (τ τ' : XS), A σ τ → σ'.1 16 = σ.1 16 → σ'.2.1 17 = σ.2.1 17 → σ'.2.1 18 = σ.2.1 18 → σ'.2.1 19 = σ.2.1 19 → σ'.2.1 20 = σ.2.1 20 → σ'.2.1 21 = σ.2.1 21 → σ'.2.1 22 = σ.2.1 22 → σ'.2.1 23 = σ.2.1 23 → σ'.2.1 24 = σ.2.1 24 → σ'.2.1 25 = σ.2.1 25 → τ'.1 302 = τ.1 302 → τ'.2.1 303 = τ.2.1 303 → τ'.2.2.2 = τ.2.2.2 → A σ' τ'
def InvA (A : MS → XS → Prop) (σ : MS) (τ : XS) : Prop := ∃ (np ne : Nat) (bl : List Nat), PplI σ τ np ∧ BkI σ τ np ne bl ∧ MisI σ τ np ∧ A σ τ
theorem Stb.same {A : MS → XS → Prop} (hA : Stb A) {σ σ' : MS} {τ τ' : XS} (h : A σ τ) (hm : SameM σ σ') (hx : SameX τ τ') : A σ' τ' :=
  hA σ σ' τ τ' h (hm.1 16 (by decide) (by decide) (by decide) (by decide)) (hm.2.1 17 (by decide) (by decide) (by decide)) (hm.2.1 18 (by decide) (by decide) (by decide)) (hm.2.1 19 (by decide) (by decide) (by decide)) (hm.2.1 20 (by decide) (by decide) (by decide)) (hm.2.1 21 (by decide) (by decide) (by decide)) (hm.2.1 22 (by decide) (by decide) (by decide)) (hm.2.1 23 (by decide) (by decide) (by decide)) (hm.2.1 24 (by decide) (by decide) (by decide)) (hm.2.1 25 (by decide) (by decide) (by decide)) (hx.1 302 (by decide) (by decide) (by decide)) (hx.2.1 303 (by decide) (by decide) (by decide) (by decide) (by decide) (by decide) (by decide)) (by rw [hx.2.2])
theorem InvA.same {A : MS → XS → Prop} (hA : Stb A) {σ σ' : MS} {τ τ' : XS} (h : InvA A σ τ) (hm : SameM σ σ') (hx : SameX τ τ') : InvA A σ' τ' := by
  obtain ⟨np, ne, bl, hP, hB, hM, ha⟩ := h
  exact ⟨np, ne, bl, hP.same hm hx, hB.same hm hx, hM.same hm hx, hA.same ha hm hx⟩
/-- 1 where it is so -/
def b01 (P : Prop) [Decidable P] : Int32 := if P then 1 else 0
theorem b01_if {α : Type} (P : Prop) [Decidable P] (a b : α) : (if b01 P = 0 then a else b) = if P then b else a := by
  unfold b01
  by_cases h : P
  · rw [if_pos h, if_neg (by decide), if_pos h]
  · rw [if_neg h, if_pos rfl, if_neg h]
theorem b01_bz {β : Type} (P : Prop) [Decidable P] (k : Option β) : bz (b01 P) k = k := by
  unfold b01
  by_cases h : P
  · rw [if_pos h, bz_1]
  · rw [if_neg h, bz_0]
section IFS
variable {α : Type} {p a b : Int32} {x y : α}
theorem in_if1 : (if p < a then x else if p ≤ b then y else x) = if a ≤ p ∧ p ≤ b then y else x := by
  by_cases h1 : p < a
  · rw [if_pos h1, if_neg]; rintro ⟨g, -⟩; rw [i32_lt] at h1; rw [i32_le] at g; omega
  · rw [if_neg h1]
    have h1' : a ≤ p := by rw [i32_lt] at h1; rw [i32_le]; omega
    by_cases h2 : p ≤ b
    · rw [if_pos h2, if_pos ⟨h1', h2⟩]
    · rw [if_neg h2, if_neg fun g => h2 g.2]
theorem in_if2 : (if p < a then x else if b < p then x else y) = if a ≤ p ∧ p ≤ b then y else x := by
  rw [← in_if1 (x := x)]
  by_cases h1 : p < a
  · rw [if_pos h1, if_pos h1]
  · rw [if_neg h1, if_neg h1]
    by_cases h2 : b < p
    · rw [if_pos h2, if_neg]; intro g; rw [i32_lt] at h2; rw [i32_le] at g; omega
    · rw [if_neg h2, if_pos]; rw [i32_lt] at h2; rw [i32_le]; omega
theorem in_if4 : (if p < a then x else if p < b then y else x) = if a ≤ p ∧ p < b then y else x := by
  by_cases h1 : p < a
  · rw [if_pos h1, if_neg]; rintro ⟨g, -⟩; rw [i32_lt] at h1; rw [i32_le] at g; omega
  · rw [if_neg h1]
    have h1' : a ≤ p := by rw [i32_lt] at h1; rw [i32_le]; omega
    by_cases h2 : p < b
    · rw [if_pos h2, if_pos ⟨h1', h2⟩]
    · rw [if_neg h2, if_neg fun g => h2 g.2]
theorem in_if3 : (if p < a then x else if b ≤ p then x else y) = if a ≤ p ∧ p < b then y else x := by
  rw [← in_if4 (x := x)]
  by_cases h1 : p < a
  · rw [if_pos h1, if_pos h1]
  · rw [if_neg h1, if_neg h1]
    by_cases h2 : b ≤ p
    · rw [if_pos h2, if_neg]; intro g; rw [i32_le] at h2; rw [i32_lt] at g; omega
    · rw [if_neg h2, if_pos]; rw [i32_le] at h2; rw [i32_lt]; omega
end IFS
theorem M_in_eq {σ : MS} {p a b : Int32} : M_in σ p a b = some (b01 (a ≤ p ∧ p ≤ b)) := by
  unfold M_in b01
  rw [in_if2]
  by_cases h : a ≤ p ∧ p ≤ b
  · rw [if_pos h, if_pos h]
  · rw [if_neg h, if_neg h]
theorem b01_congr {P Q : Prop} [Decidable P] [Decidable Q] (h : P ↔ Q) : b01 P = b01 Q := by
  unfold b01
  by_cases g : P
  · rw [if_pos g, if_pos (h.mp g)]
  · rw [if_neg g, if_neg fun k => g (h.mpr k)]
theorem nI_m1 {n : Nat} (h : n < 2 ^ 31) : (nI n - 1).toInt = (n : Int) - 1 := by
  rw [Int32.toInt_sub, nI_i h, show (1 : Int32).toInt = 1 from rfl]
  show Int.bmod ((n : Int) - 1) 4294967296 = _
  exact Int.bmod_eq_of_le (by omega) (by omega)
theorem M_in_N {σ : MS} {p : Int32} {n : Nat} (h : n < 2 ^ 31) : M_in σ p 0 (nI n - 1) = some (b01 (0 ≤ p ∧ p < nI n)) := by
  rw [M_in_eq]
  congr 1
  refine b01_congr (and_congr_right fun _ => ?_)
  rw [i32_le, i32_lt, nI_m1 h, nI_i h]
  omega
theorem M_isPerson_eq {σ : MS} {n : Nat} (h : n ≤ 24) (e : σ.1 1 = nI n) {p : Int32} : M_isPerson σ p = some (b01 (0 ≤ p ∧ p < nI n)) := by
  unfold M_isPerson
  rw [e, M_in_N (by omega), bind_so, b01_bz]
theorem Bk_isPerson_eq {τ : XS} {n : Nat} (e : τ.1 104 = nI n) {p : Int32} : Bk_isPerson τ p = some (b01 (0 ≤ p ∧ p < nI n)) := by
  unfold Bk_isPerson b01
  rw [e, in_if3]
  by_cases h : 0 ≤ p ∧ p < nI n
  · rw [if_pos h, if_pos h]
  · rw [if_neg h, if_neg h]
theorem Bk_isEntry_eq {τ : XS} {n : Nat} (e : τ.1 113 = nI n) {p : Int32} : Bk_isEntry τ p = some (b01 (0 ≤ p ∧ p < nI n)) := by
  unfold Bk_isEntry b01
  rw [e, in_if3]
  by_cases h : 0 ≤ p ∧ p < nI n
  · rw [if_pos h, if_pos h]
  · rw [if_neg h, if_neg h]
theorem M_isDay_eq {σ : MS} {p : Int32} : M_isDay σ p = some (b01 (0 ≤ p ∧ p ≤ 9999)) := by
  unfold M_isDay
  rw [M_in_eq, bind_so, b01_bz]
theorem W_isDay_eq {τ : XS} {p : Int32} : W_isDay τ p = some (b01 (0 ≤ p ∧ p ≤ 9999)) := by
  unfold W_isDay
  rw [in_if3, b01_congr (Q := 0 ≤ p ∧ p < 10000)]
  · unfold b01
    by_cases h : 0 ≤ p ∧ p < 10000
    · rw [if_pos h, if_pos h]
    · rw [if_neg h, if_neg h]
  · refine and_congr_right fun _ => ?_
    rw [i32_le, i32_lt, show (9999 : Int32).toInt = 9999 from rfl, show (10000 : Int32).toInt = 10000 from rfl]
    omega
theorem M_isYear_eq {σ : MS} {p : Int32} : M_isYear σ p = some (b01 (0 ≤ p ∧ p ≤ 99)) := by
  unfold M_isYear
  rw [M_in_eq, bind_so, b01_bz]
theorem W_isYear_eq {τ : XS} {p : Int32} : W_isYear τ p = some (b01 (0 ≤ p ∧ p ≤ 99)) := by
  unfold W_isYear
  rw [in_if3, b01_congr (Q := 0 ≤ p ∧ p < 100)]
  · unfold b01
    by_cases h : 0 ≤ p ∧ p < 100
    · rw [if_pos h, if_pos h]
    · rw [if_neg h, if_neg h]
  · refine and_congr_right fun _ => ?_
    rw [i32_le, i32_lt, show (99 : Int32).toInt = 99 from rfl, show (100 : Int32).toInt = 100 from rfl]
    omega
theorem W_isAge_eq {τ : XS} {p : Int32} : W_isAge τ p = some (b01 (0 ≤ p ∧ p ≤ 99)) := W_isYear_eq (τ := τ)
theorem W_isRate_eq {τ : XS} {p : Int32} : W_isRate τ p = some (b01 (0 ≤ p ∧ p ≤ 3)) := by
  unfold W_isRate
  rw [in_if2]
  unfold b01
  by_cases h : 0 ≤ p ∧ p ≤ 3
  · rw [if_pos h, if_pos h]
  · rw [if_neg h, if_neg h]
theorem M_isBy_eq {σ : MS} {n : Nat} (e : σ.1 7 = nI n) {p : Int32} : M_isBy σ p = some (b01 (-1 ≤ p ∧ p ≤ nI n)) := by
  unfold M_isBy
  rw [M_in_eq, bind_so, b01_bz, e]
theorem Bk_isReach_eq {τ : XS} {n : Nat} (e : τ.1 113 = nI n) {p : Int32} : Bk_isReach τ p = some (b01 (-1 ≤ p ∧ p ≤ nI n)) := by
  unfold Bk_isReach b01
  rw [e, in_if2]
  by_cases h : -1 ≤ p ∧ p ≤ nI n
  · rw [if_pos h, if_pos h]
  · rw [if_neg h, if_neg h]
theorem inN {p : Int32} {n : Nat} (h : 0 ≤ p ∧ p < nI n) (hn : n < 2 ^ 31) : ∃ j, j < n ∧ p = nI j := by
  rcases ix3 p hn with g | g | g
  · have := h.1; rw [i32_lt] at g; rw [i32_le] at this; omega
  · have := h.2; rw [i32_le] at g; rw [i32_lt] at this; omega
  · exact g
theorem inR {p : Int32} {n : Nat} (h : -1 ≤ p ∧ p ≤ nI n) (hn : n < 2 ^ 30) : ∃ K, K ≤ n ∧ ((p = -1) ∨ (p ≠ -1 ∧ p = nI K)) := by
  by_cases c : p = -1
  · exact ⟨0, Nat.zero_le _, Or.inl c⟩
  · obtain ⟨j, hj, e⟩ := inN (p := p) (n := n + 1) ⟨by have := h.1; rw [i32_eq, lit_m1] at c; rw [i32_le, lit_m1] at this; rw [i32_le]; show (0 : Int) ≤ _; omega, by have := h.2; rw [i32_le, nI_i (by omega)] at this; rw [i32_lt, nI_i (by omega)]; omega⟩ (by omega)
    exact ⟨j, by omega, Or.inr ⟨c, e⟩⟩
