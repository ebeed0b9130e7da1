/-! a year's rent: both sides sum the days -/
def sR (R : Nat → Int) (a : Nat) : Nat → Int
  | 0 => 0
  | n + 1 => sR R a n + R (a + n)
theorem sR_add {R : Nat → Int} {a n : Nat} : ∀ m, sR R a (n + m) = sR R a n + sR R (a + n) m := by
  intro m
  induction m with
  | zero => rw [Nat.add_zero, sR]; omega
  | succ m ih => rw [← Nat.add_assoc, sR, ih, sR, Nat.add_assoc a n m]; omega
theorem sR_const {R : Nat → Int} {a : Nat} {c : Int} : ∀ n, (∀ i, i < n → R (a + i) = c) → sR R a n = n * c := by
  intro n
  induction n with
  | zero => intro _; rw [sR]; simp
  | succ n ih =>
    intro h
    rw [sR, ih fun i hi => h i (by omega), h n (by omega), show ((n + 1 : Nat) : Int) = (n : Int) + 1 from rfl, Int.add_mul, Int.one_mul]
theorem sR_zero {R : Nat → Int} {a n : Nat} (h : ∀ i, i < n → R (a + i) = 0) : sR R a n = 0 := by rw [sR_const n h, Int.mul_zero]
def NX (E day x : Int32) (P : Int32 → Prop) : Prop := day.toInt < x.toInt ∧ x.toInt ≤ E.toInt ∧ ∀ c, P c → ¬ (day.toInt < c.toInt ∧ c.toInt < x.toInt)
theorem NX.no {E day x c : Int32} {P : Int32 → Prop} (h : NX E day x P) (hc : ¬ (day.toInt < c.toInt ∧ c.toInt < x.toInt)) : NX E day x (fun z => P z ∨ z = c) := ⟨h.1, h.2.1, fun z hz => hz.elim (h.2.2 z) fun e => by rw [e]; exact hc⟩
theorem NX.yes {E day x c : Int32} {P : Int32 → Prop} (h : NX E day x P) (h1 : day.toInt < c.toInt) (h2 : c.toInt < x.toInt) : NX E day c (fun z => P z ∨ z = c) := ⟨h1, by have := h.2.1; omega, fun z hz => hz.elim (fun g => by have := h.2.2 z g; omega) fun e => by rw [e]; omega⟩
theorem NX.mono {E day x : Int32} {P Q : Int32 → Prop} (h : NX E day x P) (hi : ∀ z, Q z → P z) : NX E day x Q := ⟨h.1, h.2.1, fun z hz => h.2.2 z (hi z hz)⟩
theorem sooner_spec {τ : XS} {E day x : Int32} {P : Int32 → Prop} (h : NX E day x P) (c : Int32) : ∃ x', Cn_sooner τ x c day = some x' ∧ NX E day x' (fun z => P z ∨ z = c) := by
  unfold Cn_sooner
  by_cases c1 : c ≤ day
  · rw [if_pos c1]
    rw [i32_le] at c1
    exact ⟨_, rfl, h.no fun g => by omega⟩
  rw [if_neg c1]
  by_cases c2 : x ≤ c
  · rw [if_pos c2]
    rw [i32_le] at c2
    exact ⟨_, rfl, h.no fun g => by omega⟩
  · rw [if_neg c2]
    rw [i32_le] at c1 c2
    exact ⟨_, rfl, h.yes (by omega) (by omega)⟩
section NEXTM
variable {σ : MS} {K np na : Nat} {day : Int32}
theorem next_acts (h9 : na ≤ 9) (h16 : σ.1 16 + σ.1 50 = nI na) (A : Int32 → Prop) : ∀ (m i fu : Nat) (x : Int32), i + m = na → m < fu → NX 10000 day x (fun z => A z ∨ ∃ k, k < i ∧ σ.2.1 19 k ≠ 0 ∧ z = σ.2.1 17 k) → ∃ x', M_nextChange_L150_r σ fu day x (nI i) = some x' ∧ NX 10000 day x' (fun z => A z ∨ ∃ k, k < na ∧ σ.2.1 19 k ≠ 0 ∧ z = σ.2.1 17 k) := by
  intro m
  induction m with
  | zero =>
    intro i fu x hi hf hx
    obtain ⟨f, rfl, -⟩ := fuel hf
    have hi : i = na := by omega
    subst hi
    exact ⟨x, by rw [M_nextChange_L150_r, h16, if_pos (Int32.le_refl _)], hx⟩
  | succ m ih =>
    intro i fu x hi hf hx
    obtain ⟨f, rfl, hf2⟩ := fuel hf
    have nx := fun x hx => ih (i + 1) f x (by omega) (by omega) hx
    rw [M_nextChange_L150_r, h16, if_neg (nI_ge (by omega) (by omega))]
    simp only [rd_nI (show i < 9 by omega) (show 9 < 2 ^ 31 by decide), M_nextChange_J201, M_nextChange_J202, nI_1]
    by_cases c1 : σ.2.1 19 i = 0
    · rw [if_pos c1]
      refine nx x (hx.mono fun z hz => hz.elim Or.inl ?_)
      rintro ⟨k, k1, k2, k3⟩
      rcases Nat.lt_or_eq_of_le (Nat.le_of_lt_succ k1) with q | rfl
      · exact Or.inr ⟨k, q, k2, k3⟩
      · exact absurd c1 k2
    rw [if_neg c1]
    have up : ∀ z, (A z ∨ ∃ k, k < i + 1 ∧ σ.2.1 19 k ≠ 0 ∧ z = σ.2.1 17 k) → (A z ∨ ∃ k, k < i ∧ σ.2.1 19 k ≠ 0 ∧ z = σ.2.1 17 k) ∨ z = σ.2.1 17 i := by
      rintro z (hz | ⟨k, k1, k2, k3⟩)
      · exact Or.inl (Or.inl hz)
      · rcases Nat.lt_or_eq_of_le (Nat.le_of_lt_succ k1) with q | rfl
        · exact Or.inl (Or.inr ⟨k, q, k2, k3⟩)
        · exact Or.inr k3
    by_cases c2 : σ.2.1 17 i ≤ day
    · rw [if_pos c2]
      rw [i32_le] at c2
      exact nx x ((hx.no (c := σ.2.1 17 i) fun g => by omega).mono up)
    rw [if_neg c2]
    by_cases c3 : x ≤ σ.2.1 17 i
    · rw [if_pos c3]
      rw [i32_le] at c3
      exact nx x ((hx.no (c := σ.2.1 17 i) fun g => by omega).mono up)
    · rw [if_neg c3]
      rw [i32_le] at c2 c3
      exact nx _ ((hx.yes (c := σ.2.1 17 i) (by omega) (by omega)).mono up)
theorem next_weds (hK : K ≤ 200) (h45 : σ.1 45 = nI K) (h9 : na ≤ 9) (h16 : σ.1 16 + σ.1 50 = nI na) (A : Int32 → Prop) : ∀ (m i fu : Nat) (x : Int32), i + m = K → m < fu → NX 10000 day x (fun z => A z ∨ ∃ e, e < i ∧ σ.2.1 43 e ≠ 0 ∧ σ.2.1 8 e = 1 ∧ z = σ.2.1 11 e) → ∃ x', M_nextChange_L84_r σ fu day x (nI i) = some x' ∧ NX 10000 day x' (fun z => (A z ∨ ∃ e, e < K ∧ σ.2.1 43 e ≠ 0 ∧ σ.2.1 8 e = 1 ∧ z = σ.2.1 11 e) ∨ ∃ k, k < na ∧ σ.2.1 19 k ≠ 0 ∧ z = σ.2.1 17 k) := by
  intro m
  induction m with
  | zero =>
    intro i fu x hi hf hx
    obtain ⟨f, rfl, -⟩ := fuel hf
    have hi : i = K := by omega
    subst hi
    rw [M_nextChange_L84_r, h45, if_pos (Int32.le_refl _)]
    exact next_acts h9 h16 _ na 0 100000 x (by omega) (by omega) (hx.mono fun z hz => hz.elim id fun ⟨k, k1, _⟩ => absurd k1 (Nat.not_lt_zero _))
  | succ m ih =>
    intro i fu x hi hf hx
    obtain ⟨f, rfl, hf2⟩ := fuel hf
    have nx := fun x hx => ih (i + 1) f x (by omega) (by omega) hx
    rw [M_nextChange_L84_r, h45, if_neg (nI_ge (by omega) (by omega))]
    simp only [rd_nI (show i < 200 by omega) (show 200 < 2 ^ 31 by decide), M_nextChange_J140, M_nextChange_J141, nI_1]
    have skip : ¬ (σ.2.1 43 i ≠ 0 ∧ σ.2.1 8 i = 1) → ∀ z, (A z ∨ ∃ e, e < i + 1 ∧ σ.2.1 43 e ≠ 0 ∧ σ.2.1 8 e = 1 ∧ z = σ.2.1 11 e) → (A z ∨ ∃ e, e < i ∧ σ.2.1 43 e ≠ 0 ∧ σ.2.1 8 e = 1 ∧ z = σ.2.1 11 e) := by
      rintro ng z (hz | ⟨k, k1, k2, k3, k4⟩)
      · exact Or.inl hz
      · rcases Nat.lt_or_eq_of_le (Nat.le_of_lt_succ k1) with q | rfl
        · exact Or.inr ⟨k, q, k2, k3, k4⟩
        · exact absurd ⟨k2, k3⟩ ng
    by_cases c1 : σ.2.1 43 i = 0
    · rw [if_pos c1]
      exact nx x (hx.mono (skip fun g => g.1 c1))
    rw [if_neg c1]
    by_cases c0 : σ.2.1 8 i = 1
    case neg =>
      rw [if_neg c0]
      exact nx x (hx.mono (skip fun g => c0 g.2))
    rw [if_pos c0]
    have up : ∀ z, (A z ∨ ∃ e, e < i + 1 ∧ σ.2.1 43 e ≠ 0 ∧ σ.2.1 8 e = 1 ∧ z = σ.2.1 11 e) → (A z ∨ ∃ e, e < i ∧ σ.2.1 43 e ≠ 0 ∧ σ.2.1 8 e = 1 ∧ z = σ.2.1 11 e) ∨ z = σ.2.1 11 i := by
      rintro z (hz | ⟨k, k1, k2, k3, k4⟩)
      · exact Or.inl (Or.inl hz)
      · rcases Nat.lt_or_eq_of_le (Nat.le_of_lt_succ k1) with q | rfl
        · exact Or.inl (Or.inr ⟨k, q, k2, k3, k4⟩)
        · exact Or.inr k4
    by_cases c2 : σ.2.1 11 i ≤ day
    · rw [if_pos c2]
      rw [i32_le] at c2
      exact nx x ((hx.no (c := σ.2.1 11 i) fun g => by omega).mono up)
    rw [if_neg c2]
    by_cases c3 : x ≤ σ.2.1 11 i
    · rw [if_pos c3]
      rw [i32_le] at c3
      exact nx x ((hx.no (c := σ.2.1 11 i) fun g => by omega).mono up)
    · rw [if_neg c3]
      rw [i32_le] at c2 c3
      exact nx _ ((hx.yes (c := σ.2.1 11 i) (by omega) (by omega)).mono up)
theorem M_nextChange_spec (hK : K ≤ 200) (h24 : np ≤ 24) (h1 : σ.1 1 = nI np) (h45 : σ.1 45 = nI K) (h9 : na ≤ 9) (h16 : σ.1 16 + σ.1 50 = nI na) (hd : day.toInt < 10000) : ∃ x, M_nextChange σ day = some x ∧ NX 10000 day x (fun z => ((∃ q, q < np ∧ z = σ.2.1 44 q) ∨ ∃ e, e < K ∧ σ.2.1 43 e ≠ 0 ∧ σ.2.1 8 e = 1 ∧ z = σ.2.1 11 e) ∨ ∃ k, k < na ∧ σ.2.1 19 k ≠ 0 ∧ z = σ.2.1 17 k) := by
  have key : ∀ (m i fu : Nat) (x : Int32), i + m = np → m < fu → NX 10000 day x (fun z => ∃ q, q < i ∧ z = σ.2.1 44 q) → ∃ x', M_nextChange_L6_r σ fu day x (nI i) = some x' ∧ NX 10000 day x' (fun z => ((∃ q, q < np ∧ z = σ.2.1 44 q) ∨ ∃ e, e < K ∧ σ.2.1 43 e ≠ 0 ∧ σ.2.1 8 e = 1 ∧ z = σ.2.1 11 e) ∨ ∃ k, k < na ∧ σ.2.1 19 k ≠ 0 ∧ z = σ.2.1 17 k) := by
    intro m
    induction m with
    | zero =>
      intro i fu x hi hf hx
      obtain ⟨f, rfl, -⟩ := fuel hf
      have hi : i = np := by omega
      subst hi
      rw [M_nextChange_L6_r, h1, if_pos (Int32.le_refl _)]
      exact next_weds hK h45 h9 h16 _ K 0 100000 x (by omega) (by omega) (hx.mono fun z hz => hz.elim id fun ⟨k, k1, _⟩ => absurd k1 (Nat.not_lt_zero _))
    | succ m ih =>
      intro i fu x hi hf hx
      obtain ⟨f, rfl, hf2⟩ := fuel hf
      have nx := fun x hx => ih (i + 1) f x (by omega) (by omega) hx
      rw [M_nextChange_L6_r, h1, if_neg (nI_ge (by omega) (by omega))]
      simp only [rd_nI (show i < 24 by omega) (show 24 < 2 ^ 31 by decide), M_nextChange_J43]
      have up : ∀ z, (∃ q, q < i + 1 ∧ z = σ.2.1 44 q) → (∃ q, q < i ∧ z = σ.2.1 44 q) ∨ z = σ.2.1 44 i := by
        rintro z ⟨k, k1, k2⟩
        rcases Nat.lt_or_eq_of_le (Nat.le_of_lt_succ k1) with q | rfl
        · exact Or.inl ⟨k, q, k2⟩
        · exact Or.inr k2
      have born : ∀ x, NX 10000 day x (fun z => ∃ q, q < i + 1 ∧ z = σ.2.1 44 q) → ∃ x', M_nextChange_J44 (M_nextChange_L6_r σ f) σ day (nI i) x = some x' ∧ NX 10000 day x' (fun z => ((∃ q, q < np ∧ z = σ.2.1 44 q) ∨ ∃ e, e < K ∧ σ.2.1 43 e ≠ 0 ∧ σ.2.1 8 e = 1 ∧ z = σ.2.1 11 e) ∨ ∃ k, k < na ∧ σ.2.1 19 k ≠ 0 ∧ z = σ.2.1 17 k) := by
        intro x hx
        simp only [M_nextChange_J44, rd_nI (show i < 24 by omega) (show 24 < 2 ^ 31 by decide), M_nextChange_J74, M_nextChange_J75, nI_1]
        by_cases c2 : σ.2.1 3 i ≤ day
        · rw [if_pos c2]
          exact nx x hx
        rw [if_neg c2]
        by_cases c3 : x ≤ σ.2.1 3 i
        · rw [if_pos c3]
          exact nx x hx
        · rw [if_neg c3]
          rw [i32_le] at c2 c3
          exact nx _ ((hx.yes (c := σ.2.1 3 i) (by omega) (by omega)).mono fun z hz => Or.inl hz)
      by_cases c2 : σ.2.1 44 i ≤ day
      · rw [if_pos c2]
        rw [i32_le] at c2
        exact born x ((hx.no (c := σ.2.1 44 i) fun g => by omega).mono up)
      rw [if_neg c2]
      by_cases c3 : x ≤ σ.2.1 44 i
      · rw [if_pos c3]
        rw [i32_le] at c3
        exact born x ((hx.no (c := σ.2.1 44 i) fun g => by omega).mono up)
      · rw [if_neg c3]
        rw [i32_le] at c2 c3
        exact born _ ((hx.yes (c := σ.2.1 44 i) (by omega) (by omega)).mono up)
  exact key np 0 100000 10000 (by omega) (by omega) ⟨by rw [show (10000 : Int32).toInt = 10000 from rfl]; exact hd, Int.le_refl _, fun z ⟨q, q1, _⟩ => absurd q1 (Nat.not_lt_zero _)⟩
end NEXTM
section RENTS
variable {σ σ' : MS} {τ τ' : XS} {K np ne na : Nat} {bl od : List Nat} {hh : Nat → Nat}
theorem Ch.rm (hm : Rm σ σ') (p : Nat) : Ch σ' K np na p = Ch σ K np na p := by
  unfold Ch
  rw [hm.2.1 44 (by decide), hm.2.1 43 (by decide), hm.2.1 8 (by decide), hm.2.1 9 (by decide), hm.2.1 10 (by decide), hm.2.1 11 (by decide), hm.2.1 17 (by decide), hm.2.1 19 (by decide)]
theorem CV.nextM (h : CV σ τ K np ne bl na hh od) {p : Nat} (hp : p < np) {day : Int32} (hd : day.toInt < 10000) : ∃ x, M_nextChange σ day = some x ∧ NX 10000 day x (Ch σ K np na p) := by
  obtain ⟨x, h1, h2⟩ := M_nextChange_spec (σ := σ) h.2.1.1 h.1.1.1 h.1.1.2.1 h.2.1.2.2.1 h.1.na9 h.1.2.2.2.2.1 hd
  refine ⟨x, h1, h2.mono ?_⟩
  rintro z (hz | ⟨e, e1, e2, e3, e4, e5 | ⟨q, q1, q2, q3⟩⟩ | hz)
  · exact Or.inl (Or.inl ⟨p, hp, hz⟩)
  · exact Or.inl (Or.inr ⟨e, e1, e2, e3, e5⟩)
  · exact Or.inl (Or.inl ⟨q, q1, q3⟩)
  · exact Or.inr hz
theorem nextBegun_spec (A : ActsR σ τ na hh od) {E day : Int32} (hE : day.toInt < E.toInt) : ∃ x, Lw_nextBegun τ day E = some x ∧ NX E day x (fun z => ∃ k, k < na ∧ σ.2.1 19 k ≠ 0 ∧ z = σ.2.1 17 k) := by
  have h9 := A.1
  have key : ∀ (m i fu : Nat) (x : Int32), i + m = na → m < fu → NX E day x (fun z => ∃ k, k < i ∧ σ.2.1 19 k ≠ 0 ∧ z = σ.2.1 17 k) → ∃ x', Lw_nextBegun_L5_r τ fu day x (nI i) = some x' ∧ NX E day x' (fun z => ∃ k, k < na ∧ σ.2.1 19 k ≠ 0 ∧ z = σ.2.1 17 k) := by
    intro m
    induction m with
    | zero =>
      intro i fu x hi hf hx
      obtain ⟨f, rfl, -⟩ := fuel hf
      have hi : i = na := by omega
      subst hi
      exact ⟨x, by rw [Lw_nextBegun_L5_r, A.2.1, if_pos (Int32.le_refl _)], hx⟩
    | succ m ih =>
      intro i fu x hi hf hx
      obtain ⟨f, rfl, hf2⟩ := fuel hf
      have hin : i < na := by omega
      have nx := fun x hx => ih (i + 1) f x (by omega) (by omega) hx
      obtain ⟨k1, k2⟩ := A.2.2.1 i hin
      obtain ⟨y1, y2, nc, y3, y4, y5, y6, -⟩ := A.2.2.2.2.2.2.2.2 i hin
      rw [Lw_nextBegun_L5_r, A.2.1, if_neg (nI_ge (by omega) (by omega)), rd_nI (by omega) (by decide), k1, oN_some]
      simp only [oA_some k2, Lw_nextBegun_J60, nI_1, y1]
      by_cases c1 : tF τ (hh i) 1 = 0
      · rw [if_pos c1]
        refine nx x (hx.mono ?_)
        rintro z ⟨k, g1, g2, g3⟩
        rcases Nat.lt_or_eq_of_le (Nat.le_of_lt_succ g1) with q | rfl
        · exact ⟨k, q, g2, g3⟩
        · exact absurd (y6.mp c1) g2
      rw [if_neg c1]
      have up : ∀ z, (∃ k, k < i + 1 ∧ σ.2.1 19 k ≠ 0 ∧ z = σ.2.1 17 k) → (∃ k, k < i ∧ σ.2.1 19 k ≠ 0 ∧ z = σ.2.1 17 k) ∨ z = σ.2.1 17 i := by
        rintro z ⟨k, k1, k2, k3⟩
        rcases Nat.lt_or_eq_of_le (Nat.le_of_lt_succ k1) with q | rfl
        · exact Or.inl ⟨k, q, k2, k3⟩
        · exact Or.inr k3
      by_cases c2 : σ.2.1 17 i ≤ day
      · rw [if_pos c2]
        rw [i32_le] at c2
        exact nx x ((hx.no (c := σ.2.1 17 i) fun g => by omega).mono up)
      rw [if_neg c2]
      by_cases c3 : x ≤ σ.2.1 17 i
      · rw [if_pos c3]
        rw [i32_le] at c3
        exact nx x ((hx.no (c := σ.2.1 17 i) fun g => by omega).mono up)
      · rw [if_neg c3]
        rw [i32_le] at c2 c3
        exact nx _ ((hx.yes (c := σ.2.1 17 i) (by omega) (by omega)).mono up)
  exact key na 0 100000 E (by omega) (by omega) ⟨hE, Int.le_refl _, fun z ⟨q, q1, _⟩ => absurd q1 (Nat.not_lt_zero _)⟩
theorem CV.nextX (h : CV σ τ K np ne bl na hh od) {p : Nat} (hp : p < np) {E day : Int32} (hE : day.toInt < E.toInt) : ∃ x, Cn_nextChange τ (nI p) day E = some x ∧ NX E day x (Ch σ K np na p) := by
  have h24 : p < 24 := by have := h.1.1.1; omega
  obtain ⟨hK, hnp, hk, -, -, ha, hdd, hw, hsg⟩ := h.2.1
  obtain ⟨a, l, sg, hm⟩ := hsg p hp
  obtain ⟨x0, e1, e2⟩ := nextBegun_spec h.1.2.2.2.1 hE
  obtain ⟨x1, f1, f2⟩ := sooner_spec (τ := τ) e2 (σ.2.1 44 p)
  have key : ∀ (s pre : List Nat) (fu : Nat) (x : Int32), pre ++ s = l → s.length < fu → NX E day x (fun z => ((∃ k, k < na ∧ σ.2.1 19 k ≠ 0 ∧ z = σ.2.1 17 k) ∨ z = σ.2.1 44 p) ∨ ∃ e, e ∈ pre ∧ (z = σ.2.1 11 e ∨ ∃ q, q < np ∧ σ.2.1 9 e = nI q ∧ z = σ.2.1 44 q)) → ∃ x', Cn_nextChange_L35_r τ fu (nI p) day x (nI (a + pre.length)) = some x' ∧ NX E day x' (fun z => ((∃ k, k < na ∧ σ.2.1 19 k ≠ 0 ∧ z = σ.2.1 17 k) ∨ z = σ.2.1 44 p) ∨ ∃ e, e ∈ l ∧ (z = σ.2.1 11 e ∨ ∃ q, q < np ∧ σ.2.1 9 e = nI q ∧ z = σ.2.1 44 q)) := by
    intro s
    induction s with
    | nil =>
      intro pre fu x hl hf hx
      obtain ⟨f, rfl, -⟩ := fuel hf
      rw [List.append_nil] at hl
      subst hl
      exact ⟨x, by rw [Cn_nextChange_L35_r, rd_nI h24 (by decide), sg.2.2.1, if_pos (Int32.le_refl _)], hx⟩
    | cons e s ih =>
      intro pre fu x hl hf hx
      obtain ⟨f, rfl, hf2⟩ := fuel hf
      have sg' := sg
      rw [← hl] at sg'
      obtain ⟨q1, q2, q3, -, -⟩ := sg'.at
      have l400 := sg.2.2.2.1
      have len : l.length = pre.length + (s.length + 1) := by rw [← hl, List.length_append, List.length_cons]
      have nx := fun x hx => ih (pre ++ [e]) f x (by rw [← hl]; simp) (by rw [List.length_cons] at hf2; omega) hx
      simp only [List.length_append, List.length_singleton, ← Nat.add_assoc] at nx
      have he : e ∈ l := by rw [← hl]; simp
      obtain ⟨g1, g2, -, -⟩ := (hm e).mp he
      obtain ⟨-, ⟨q, hq, eq, -⟩, -⟩ := hw e g1 g2
      obtain ⟨x2, s1, s2⟩ := sooner_spec (τ := τ) hx (σ.2.1 11 e)
      obtain ⟨x3, s3, s4⟩ := sooner_spec (τ := τ) s2 (σ.2.1 44 q)
      rw [Cn_nextChange_L35_r, rd_nI h24 (by decide), sg.2.2.1, if_neg (nI_ge (by omega) (by omega)), rd_nI q3 (by decide), q1, rd_nI q2 (by decide), ha.2.2.2.2.2.2.2.1, s1, bind_so, rd_nI q2 (by decide), ha.2.2.2.2.2.1, eq, rd_nI (by omega) (by decide), hdd q hq, s3, bind_so, nI_1]
      refine nx x3 (s4.mono ?_)
      rintro z (hz | ⟨e', he', hz⟩)
      · exact Or.inl (Or.inl (Or.inl hz))
      · rcases List.mem_append.mp he' with g | g
        · exact Or.inl (Or.inl (Or.inr ⟨e', g, hz⟩))
        · rw [List.mem_singleton] at g
          subst g
          rcases hz with hz | ⟨q', hq', eq', hz⟩
          · exact Or.inl (Or.inr hz)
          · have : q = q' := (nI_eq (by omega) (by omega)).mp (eq.symm.trans eq')
            subst this
            exact Or.inr hz
  obtain ⟨x', k1, k2⟩ := key l [] 100000 x1 rfl (by have := sg.2.2.2.1; omega) (f2.mono fun z hz => hz.elim id fun ⟨e, he, _⟩ => absurd he List.not_mem_nil)
  refine ⟨x', ?_, k2.mono ?_⟩
  · unfold Cn_nextChange Cn_nextChange_L35
    rw [e1, bind_so, rd_nI h24 (by decide), hdd p hp, f1, bind_so, rd_nI h24 (by decide), sg.2.1]
    exact k1
  · rintro z (hz | ⟨e, e1, e2, e3, e4, e5⟩ | hz)
    · exact Or.inl (Or.inr hz)
    · exact Or.inr ⟨e, (hm e).mpr ⟨e1, e2, by rw [e3]; decide, e4.elim Or.inl fun g => Or.inr ⟨e3, g⟩⟩, e5⟩
    · exact Or.inl (Or.inl hz)
/-- the rent on a day, as a number -/
def rD (σ : MS) (p D : Nat) : Int := (vM σ (fun s => M_rentOn s (nI p) (nI D))).toInt
theorem CK.rD_step (h : CK σ τ K np ne bl na hh od) {p : Nat} (hp : p < np) {Y D N : Nat} (hY : Y < 100) (hD : 100 * Y ≤ D) (hDN : D < N) (hN : N ≤ 100 * Y + 100) {x : Int32} {E : Int32} (hx : NX E (nI D) x (Ch σ K np na p)) (hNx : (N : Int) ≤ x.toInt) : Int64.ofInt (sR (rD σ p) (100 * Y) (D - 100 * Y)) + Int64.ofInt (rD σ p D) * Int64.ofInt ((N - D : Nat) : Int) = Int64.ofInt (sR (rD σ p) (100 * Y) (N - 100 * Y)) := by
  have e1 : N - 100 * Y = (D - 100 * Y) + (N - D) := by omega
  rw [e1, sR_add, show 100 * Y + (D - 100 * Y) = D by omega, sR_const (c := rD σ p D) (N - D) fun i hi => ?_, Int64.ofInt_add, Int64.ofInt_mul, Int64.mul_comm]
  have e2 := h.rentConst hp (d := nI D) (d' := nI (D + i)) (by rw [nI_i (by omega), nI_i (by omega)]; omega) (by rw [nI_i (by omega)]; omega) fun c hc => by
    have := hx.2.2 c hc
    rw [nI_i (by omega)] at this ⊢
    rw [nI_i (by omega)]
    omega
  unfold rD
  rw [e2]
theorem nI64 {n : Nat} (h : n < 2 ^ 31) : (nI n).toInt64 = Int64.ofInt (n : Int) := i64_of (nI_i h)
theorem CK.rentOf (h : CK σ τ K np ne bl na hh od) {p : Nat} (hp : p < np) {Y : Nat} (hY : Y < 100) : QM σ (fun s => M_rentOf s (nI p) (nI Y)) (Int64.ofInt (sR (rD σ p) (100 * Y) 100) / 100) ∧ QX τ (fun t => Cn_rentOf t (nI p) (nI Y)) (Int64.ofInt (sR (rD σ p) (100 * Y) 100) / 100) := by
  have val : ∀ D, D < 10000 → ∃ u : Int32, QM σ (fun s => M_rentOn s (nI p) (nI D)) u ∧ QX τ (fun t => Cn_yearlyRent t (nI p) (nI D)) u.toInt64 ∧ u.toInt = rD σ p D := by
    intro D hD
    obtain ⟨u, -, u1, u2, -⟩ := h.rent hp (d := nI D) (by rw [nI_i (by omega)]; omega)
    refine ⟨u, u1, u2, ?_⟩
    unfold rD
    rw [u1.val]
  constructor
  · have key : ∀ (m D fu : Nat) (σ' : MS), D + m = 100 * Y + 100 → m < fu → 100 * Y ≤ D → Rm σ σ' → ∃ σ1, M_rentOf_L8_r fu σ' (nI p) (nI Y) (Int64.ofInt (sR (rD σ p) (100 * Y) (D - 100 * Y))) (nI D) = some (Int64.ofInt (sR (rD σ p) (100 * Y) 100) / 100, σ1) ∧ Rm σ σ1 := by
      intro m
      induction m using Nat.strongRecOn with
      | _ m ih =>
        intro D fu σ' hD hf hDY hm
        obtain ⟨f, rfl, hf2⟩ := fuel hf
        have eE : ((100 * nI Y) + 100 : Int32) = nI (100 * Y + 100) := by rw [show (100 : Int32) = nI 100 from rfl, nI_mul, nI_add]
        rw [M_rentOf_L8_r, eE]
        by_cases c : m = 0
        · have eD : D = 100 * Y + 100 := by omega
          rw [if_pos (nI_le (by omega) (by omega)), eD, show 100 * Y + 100 - 100 * Y = 100 by omega]
          exact ⟨σ', rfl, hm⟩
        rw [if_neg (nI_ge (by omega) (by omega))]
        have hD' : (nI D).toInt < 10000 := by rw [nI_i (by omega)]; omega
        obtain ⟨x, x1, x2⟩ := (h.1.rr hm (Rx.refl τ)).nextM hp hD'
        rw [Ch.rm hm] at x2
        obtain ⟨u, u1, -, u3⟩ := val D (by omega)
        obtain ⟨σ1, q1, q2⟩ := u1 σ' hm
        have q1' : M_rentOn σ' (nI p) (nI D) = some (u, σ1) := q1
        have xb := x2.2.1
        have xa := x2.1
        rw [show (10000 : Int32).toInt = 10000 from rfl] at xb
        rw [nI_i (by omega)] at xa
        obtain ⟨X, hX, rfl⟩ := inRn (k := x) (n := 10000) ⟨by omega, xb⟩ (by decide)
        rw [nI_i (by omega)] at xa xb
        rw [x1, bind_so]
        unfold M_rentOf_J52
        rw [q1', bind_pq, bind_pq, i64_of (v := u) u3]
        have go : ∀ N : Nat, D < N → N ≤ 100 * Y + 100 → N ≤ X → ∃ σ2, M_rentOf_L8_r f σ1 (nI p) (nI Y) (Int64.ofInt (sR (rD σ p) (100 * Y) (D - 100 * Y)) + Int64.ofInt (rD σ p D) * (nI N - nI D).toInt64) (nI N) = some (Int64.ofInt (sR (rD σ p) (100 * Y) 100) / 100, σ2) ∧ Rm σ σ2 := by
          intro N h1 h2 h3
          rw [nI_sub (by omega), nI64 (by omega), h.rD_step hp hY hDY h1 h2 x2 (by rw [nI_i (by omega)]; omega)]
          exact ih (100 * Y + 100 - N) (by omega) N f σ1 (by omega) (by omega) (by omega) q2
        by_cases c2 : nI (100 * Y + 100) ≤ nI X
        · rw [if_pos c2]
          rw [nI_leI (by omega) (by omega)] at c2
          exact go (100 * Y + 100) (by omega) (by omega) (by omega)
        · rw [if_neg c2]
          rw [nI_leI (by omega) (by omega)] at c2
          exact go X (by omega) (by omega) (by omega)
    intro σ' hm
    obtain ⟨σ1, k1, k2⟩ := key 100 (100 * Y) 100000 σ' (by omega) (by omega) (by omega) hm
    refine ⟨σ1, ?_, k2⟩
    show M_rentOf σ' (nI p) (nI Y) = _
    unfold M_rentOf M_rentOf_L8
    rw [yd']
    rw [Nat.sub_self] at k1
    exact k1
  · have key : ∀ (m D t fu : Nat) (τ' : XS), D + m = 100 * Y + 100 → m < fu → 100 * Y + t ≤ D → Rx τ τ' → ∃ τ1, Cn_rentOf_L20_r fu τ' (nI p) (nI (100 * Y + 100)) (nI D) (Int64.ofInt (sR (rD σ p) (100 * Y) (D - 100 * Y))) (nI t) = some (Int64.ofInt (sR (rD σ p) (100 * Y) 100) / 100, τ1) ∧ Rx τ τ1 := by
      intro m
      induction m using Nat.strongRecOn with
      | _ m ih =>
        intro D t fu τ' hD hf hDY hx
        obtain ⟨f, rfl, hf2⟩ := fuel hf
        rw [Cn_rentOf_L20_r]
        unfold Cn_rentOf_J72
        by_cases c : m = 0
        · have eD : D = 100 * Y + 100 := by omega
          rw [eD, if_pos (Int32.le_refl (nI (100 * Y + 100))), show 100 * Y + 100 - 100 * Y = 100 by omega]
          refine ⟨τ', ?_, hx⟩
          by_cases c2 : (100 : Int32) ≤ nI t
          · rw [if_pos c2]
          · rw [if_neg c2]
        rw [if_neg (fun g => by rw [show (100 : Int32) = nI 100 from rfl, nI_leI (by omega) (by omega)] at g; omega), if_neg (nI_ge (by omega) (by omega))]
        obtain ⟨x, x1, x2⟩ := (h.1.rr (Rm.refl σ) hx).nextX hp (E := nI (100 * Y + 100)) (day := nI D) (by rw [nI_i (by omega), nI_i (by omega)]; omega)
        obtain ⟨u, -, u2, u3⟩ := val D (by omega)
        obtain ⟨τ1, q1, q2⟩ := u2 τ' hx
        have q1' : Cn_yearlyRent τ' (nI p) (nI D) = some (u.toInt64, τ1) := q1
        have xb := x2.2.1
        have xa := x2.1
        rw [nI_i (by omega)] at xb xa
        obtain ⟨X, hX, rfl⟩ := inRn (k := x) (n := 100 * Y + 100) ⟨by omega, xb⟩ (by omega)
        rw [nI_i (by omega)] at xa xb
        rw [x1, bind_so, q1', bind_pq, i64_of (v := u) u3, nI_sub (by omega), nI64 (by omega), h.rD_step hp hY (by omega) (by omega) (by omega) x2 (by rw [nI_i (by omega)]; omega), nI_1]
        exact ih (100 * Y + 100 - X) (by omega) X (t + 1) f τ1 (by omega) (by omega) (by omega) q2
    intro τ' hx
    obtain ⟨τ1, k1, k2⟩ := key 100 (100 * Y) 0 100000 τ' (by omega) (by omega) (by omega) hx
    refine ⟨τ1, ?_, k2⟩
    show Cn_rentOf τ' (nI p) (nI Y) = _
    unfold Cn_rentOf Cn_rentOf_L20
    rw [yd, show (100 : Int32) = nI 100 from rfl, nI_add]
    rw [Nat.sub_self] at k1
    exact k1
theorem CK.rent0 (h : CK σ τ K np ne bl na hh od) {p : Nat} (hp : p < np) {Y : Nat} (hY : Y < 100) (h0 : σ.2.1 2 p ≠ 1 ∨ ∀ e, ¬ Own σ K p e) : sR (rD σ p) (100 * Y) 100 = 0 := by
  refine sR_zero fun i hi => ?_
  obtain ⟨u, -, u1, -, u3⟩ := h.rent hp (d := nI (100 * Y + i)) (by rw [nI_i (by omega)]; omega)
  unfold rD
  rw [u1.val, u3 h0]
  rfl
theorem M_isWoman_nI (hP : PplI σ τ np) {p : Nat} (hp : p < np) : M_isWoman σ (nI p) = some (b01 (σ.2.1 2 p = 1)) := by
  have := hP.1
  unfold M_isWoman
  rw [M_isPerson_eq hP.1 hP.2.1, bind_so, b01_if, if_pos ⟨nI_le0 (by omega), by rw [nI_ltI (by omega) (by omega)]; exact hp⟩, rd_nI (by omega) (by decide)]
  unfold b01
  by_cases c : σ.2.1 2 p = 1
  · rw [if_pos c, if_pos c]
  · rw [if_neg c, if_neg c]
end RENTS
theorem st23 : St23 (InvA ActI) := by
  intro σ τ xs i h
  have same : InvA ActI σ τ := h
  obtain ⟨np, ne, bl, hP, hB, hM, ha⟩ := h
  have hP1 := hP.1
  generalize xs (i + 1) = p0
  generalize xs (i + 2) = p1
  generalize xs (i + 3) = p2
  unfold W_rent M_rent
  rw [Bk_isReach_eq hB.2.2.1, M_isBy_eq hB.2.1, W_isYear_eq, M_isYear_eq]
  simp only [bind_so, b01_if]
  by_cases c : 0 ≤ p0 ∧ p0 < nI np
  case neg =>
    have e1 : M_isWoman σ p0 = some 0 := by
      unfold M_isWoman
      rw [M_isPerson_eq hP.1 hP.2.1, bind_so, b01_if, if_neg c]
    have e2 : Bk_isWoman τ p0 = some 0 := by
      unfold Bk_isWoman
      rw [Bk_isPerson_eq hP.2.2.1, bind_so, b01_if, if_neg c]
    rw [e1, e2, bind_so, bind_so, if_pos rfl, if_pos rfl]
    exact ⟨_, _, _, rfl, rfl, same⟩
  obtain ⟨p, hp, rfl⟩ := inN c (by omega)
  rw [M_isWoman_nI hP hp, Bk_isWoman_nI hP hp, bind_so, bind_so, b01_if, b01_if]
  by_cases cs : σ.2.1 2 p = 1
  case neg =>
    rw [if_neg cs, if_neg cs]
    exact ⟨_, _, _, rfl, rfl, same⟩
  rw [if_pos cs, if_pos cs]
  by_cases cy : 0 ≤ p1 ∧ p1 ≤ 99
  case neg =>
    rw [if_neg cy, if_neg cy]
    exact ⟨_, _, _, rfl, rfl, same⟩
  rw [if_pos cy, if_pos cy]
  obtain ⟨Y, hY, rfl⟩ := inRn (k := p1) (n := 99) ⟨i32_le.mp cy.1, i32_le.mp cy.2⟩ (by decide)
  by_cases c1 : -1 ≤ p2 ∧ p2 ≤ nI ne
  case neg =>
    rw [if_neg c1, if_neg c1]
    exact ⟨_, _, _, rfl, rfl, same⟩
  rw [if_pos c1, if_pos c1]
  obtain ⟨na, hh, od, cb⟩ := InvA.cb hP hB hM ha
  obtain ⟨K, σl, τl, τ1, q1, q2, ck, hx, sM, sX⟩ := cb.look c1
  obtain ⟨r1, r2⟩ := ck.rentOf hp (Y := Y) (by omega)
  obtain ⟨σ2, y1, y2⟩ := r1 σl (Rm.refl σl)
  have y1' : M_rentOf σl (nI p) (nI Y) = some (_, σ2) := y1
  obtain ⟨τ2, z1, z2⟩ := r2 τ1 hx
  have z1' : Cn_rentOf τ1 (nI p) (nI Y) = some (_, τ2) := z1
  rw [q1, q2, bind_pq, bind_pq, y1', z1', bind_pq, bind_pq]
  exact ⟨_, _, _, rfl, rfl, same.same ActI_stb (sM.trans y2.same) (sX.trans z2.same)⟩
theorem st24 : St24 (InvA ActI) := by
  intro σ τ xs i h
  have same : InvA ActI σ τ := h
  obtain ⟨np, ne, bl, hP, hB, hM, ha⟩ := h
  have hP1 := hP.1
  generalize xs (i + 1) = p0
  generalize xs (i + 2) = p1
  generalize xs (i + 3) = p2
  unfold W_widow M_widow
  rw [Bk_isReach_eq hB.2.2.1, M_isBy_eq hB.2.1, W_isDay_eq, M_isDay_eq]
  simp only [bind_so, b01_if]
  by_cases c : 0 ≤ p0 ∧ p0 < nI np
  case neg =>
    have e1 : M_isWoman σ p0 = some 0 := by
      unfold M_isWoman
      rw [M_isPerson_eq hP.1 hP.2.1, bind_so, b01_if, if_neg c]
    have e2 : Bk_isWoman τ p0 = some 0 := by
      unfold Bk_isWoman
      rw [Bk_isPerson_eq hP.2.2.1, bind_so, b01_if, if_neg c]
    rw [e1, e2, bind_so, bind_so, if_pos rfl, if_pos rfl]
    exact ⟨_, _, _, rfl, rfl, same⟩
  obtain ⟨p, hp, rfl⟩ := inN c (by omega)
  rw [M_isWoman_nI hP hp, Bk_isWoman_nI hP hp, bind_so, bind_so, b01_if, b01_if]
  by_cases cs : σ.2.1 2 p = 1
  case neg =>
    rw [if_neg cs, if_neg cs]
    exact ⟨_, _, _, rfl, rfl, same⟩
  rw [if_pos cs, if_pos cs]
  by_cases cy : 0 ≤ p1 ∧ p1 ≤ 9999
  case neg =>
    rw [if_neg cy, if_neg cy]
    exact ⟨_, _, _, rfl, rfl, same⟩
  rw [if_pos cy, if_pos cy]
  by_cases c1 : -1 ≤ p2 ∧ p2 ≤ nI ne
  case neg =>
    rw [if_neg c1, if_neg c1]
    exact ⟨_, _, _, rfl, rfl, same⟩
  rw [if_pos c1, if_pos c1]
  obtain ⟨na, hh, od, cb⟩ := InvA.cb hP hB hM ha
  obtain ⟨K, σl, τl, τ1, q1, q2, ck, hx, sM, sX⟩ := cb.look c1
  obtain ⟨u, -, r1, r2, -⟩ := ck.rent hp (d := p1) (by have := dayOk_of cy; unfold DayOk at this; omega)
  obtain ⟨σ2, y1, y2⟩ := r1 σl (Rm.refl σl)
  have y1' : M_rentOn σl (nI p) p1 = some (u, σ2) := y1
  obtain ⟨τ2, z1, z2⟩ := r2 τ1 hx
  have z1' : Cn_yearlyRent τ1 (nI p) p1 = some (u.toInt64, τ2) := z1
  rw [q1, q2, bind_pq, bind_pq, y1', z1', bind_pq, bind_pq]
  exact ⟨_, _, _, rfl, rfl, same.same ActI_stb (sM.trans y2.same) (sX.trans z2.same)⟩
