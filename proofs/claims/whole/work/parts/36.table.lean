/-! the table; laid by 36.py -/
/-- those of a million of an age who are alive after some years -/
def nextA (x t : Int32) : Int32 := x - ((x.toInt64 * t.toInt64) / 1000).toInt32
def alN (T : Nat → Int32) (a : Nat) : Nat → Int32
  | 0 => 1000000
  | k + 1 => if a + k ≤ 99 then nextA (alN T a k) (T (a + k)) else 0
theorem mulT {x t : Int32} (hx : InR x 0 1000000) (ht : InR t 0 1000) : (x.toInt64 * t.toInt64).toInt = x.toInt * t.toInt ∧ 0 ≤ x.toInt * t.toInt ∧ x.toInt * t.toInt ≤ 1000 * x.toInt := by
  obtain ⟨x1, x2⟩ := hx
  obtain ⟨t1, t2⟩ := ht
  have b1 : 0 ≤ x.toInt * t.toInt := Int.mul_nonneg x1 t1
  have b2 : x.toInt * t.toInt ≤ x.toInt * 1000 := Int.mul_le_mul_of_nonneg_left t2 x1
  refine ⟨?_, b1, by omega⟩
  rw [Int64.toInt_mul, Int32.toInt_toInt64, Int32.toInt_toInt64, show (2 : Nat) ^ 64 = 18446744073709551616 from rfl]
  exact Int.bmod_eq_of_le (by omega) (by omega)
theorem divT {y : Int64} (h0 : 0 ≤ y.toInt) : (y / 1000).toInt = y.toInt / 1000 := by
  rw [Int64.toInt_div_of_ne_right _ _ (by decide), show (1000 : Int64).toInt = 1000 from rfl]
  exact Int.tdiv_eq_ediv_of_nonneg h0
theorem nextA_v {x t : Int32} (hx : InR x 0 1000000) (ht : InR t 0 1000) : (nextA x t).toInt = x.toInt - x.toInt * t.toInt / 1000 ∧ InR (nextA x t) 0 1000000 := by
  obtain ⟨m1, m2, m3⟩ := mulT hx ht
  obtain ⟨x1, x2⟩ := hx
  have e : (((x.toInt64 * t.toInt64) / 1000).toInt32).toInt = x.toInt * t.toInt / 1000 := by
    rw [Int64.toInt_toInt32, divT (by omega), m1, show (2 : Nat) ^ 32 = 4294967296 from rfl]
    exact Int.bmod_eq_of_le (by omega) (by omega)
  have v : (nextA x t).toInt = x.toInt - x.toInt * t.toInt / 1000 := by
    unfold nextA
    rw [Int32.toInt_sub, e, show (2 : Nat) ^ 32 = 4294967296 from rfl]
    exact Int.bmod_eq_of_le (by omega) (by omega)
  exact ⟨v, by unfold InR; rw [v]; omega⟩
theorem nextA_64 {x t : Int32} (hx : InR x 0 1000000) (ht : InR t 0 1000) : (nextA x t).toInt64 = x.toInt64 - (x.toInt64 * t.toInt64) / 1000 := by
  obtain ⟨m1, m2, m3⟩ := mulT hx ht
  obtain ⟨v, -⟩ := nextA_v hx ht
  obtain ⟨x1, x2⟩ := hx
  apply Int64.toInt_inj.mp
  rw [Int32.toInt_toInt64, v, Int64.toInt_sub, Int32.toInt_toInt64, divT (by omega), m1, show (2 : Nat) ^ 64 = 18446744073709551616 from rfl]
  exact (Int.bmod_eq_of_le (by omega) (by omega)).symm
theorem nextA_1000 {x : Int32} (hx : InR x 0 1000000) : nextA x 1000 = 0 := by
  rw [i32_eq, (nextA_v hx ⟨by decide, by decide⟩).1, show (1000 : Int32).toInt = 1000 from rfl, show (0 : Int32).toInt = 0 from rfl]
  omega
theorem alN_R {T : Nat → Int32} (hT : ∀ a, a < 100 → InR (T a) 0 1000) (a : Nat) : ∀ k, InR (alN T a k) 0 1000000 := by
  intro k
  induction k with
  | zero =>
    show InR 1000000 0 1000000
    exact ⟨by decide, by decide⟩
  | succ k ih =>
    unfold alN
    by_cases c : a + k ≤ 99
    · rw [if_pos c]; exact (nextA_v ih (hT _ (by omega))).2
    · rw [if_neg c]; exact ⟨by decide, by decide⟩
theorem alN_pos {T : Nat → Int32} {a k : Nat} (h : a + k ≤ 99) : alN T a (k + 1) = nextA (alN T a k) (T (a + k)) := by rw [alN, if_pos h]
theorem alN_neg {T : Nat → Int32} {a k : Nat} (h : ¬ a + k ≤ 99) : alN T a (k + 1) = 0 := by rw [alN, if_neg h]
theorem M_aliveAt_spec {σ : MS} {a n : Nat} (ha : a ≤ 99) (hn : n ≤ 1000) : M_aliveAt σ (nI a) (nI n) = some (alN (σ.2.1 33) a n) := by
  have key : ∀ (m k fu : Nat), k + m = n → m < fu → M_aliveAt_L7_r σ fu (nI a) (nI n) (alN (σ.2.1 33) a k) (nI k) = some (alN (σ.2.1 33) a n) := by
    intro m
    induction m with
    | zero =>
      intro k fu hk hf
      obtain ⟨f, rfl, -⟩ := fuel hf
      have hk : k = n := by omega
      subst hk
      rw [M_aliveAt_L7_r, if_pos (Int32.le_refl _)]
    | succ m ih =>
      intro k fu hk hf
      obtain ⟨f, rfl, hf2⟩ := fuel hf
      have nx := ih (k + 1) f (by omega) (by omega)
      rw [M_aliveAt_L7_r, if_neg (by rw [nI_leI (by omega) (by omega)]; omega), nI_add]
      unfold M_aliveAt_J46
      by_cases c : a + k ≤ 99
      · rw [if_pos (by rw [show (99 : Int32) = nI 99 from rfl, nI_leI (by omega) (by omega)]; exact c), rd_nI (by omega) (by decide), nI_1]
        rw [alN_pos c] at nx
        exact nx
      · rw [if_neg (by rw [show (99 : Int32) = nI 99 from rfl, nI_leI (by omega) (by omega)]; exact c), nI_1]
        rw [alN_neg c] at nx
        exact nx
  exact key n 0 100000 (by omega) (by omega)
theorem Tb_afterYear_spec {τ : XS} {x : Int32} {b : Nat} (hb : b < 2000) : Tb_afterYear τ x (nI b) = some (if b ≤ 99 then nextA x (τ.2.1 600 b) else 0) := by
  unfold Tb_afterYear
  by_cases c : b ≤ 99
  · rw [if_neg (by rw [show (100 : Int32) = nI 100 from rfl, nI_leI (by omega) (by omega)]; omega), rd_nI (by omega) (by decide), if_pos c]; rfl
  · rw [if_pos (by rw [show (100 : Int32) = nI 100 from rfl, nI_leI (by omega) (by omega)]; omega), if_neg c]
theorem Tb_aliveAfter_spec {τ : XS} {a n : Nat} (ha : a ≤ 99) (hn : n ≤ 1000) : Tb_aliveAfter τ (nI a) (nI n) = some (alN (τ.2.1 600) a n) := by
  have key : ∀ (m k fu : Nat), k + m = n → m < fu → Tb_aliveAfter_L6_r τ fu (nI a) (nI n) (alN (τ.2.1 600) a k) (nI k) = some (alN (τ.2.1 600) a n) := by
    intro m
    induction m with
    | zero =>
      intro k fu hk hf
      obtain ⟨f, rfl, -⟩ := fuel hf
      have hk : k = n := by omega
      subst hk
      rw [Tb_aliveAfter_L6_r, if_pos (Int32.le_refl _)]
    | succ m ih =>
      intro k fu hk hf
      obtain ⟨f, rfl, hf2⟩ := fuel hf
      have nx := ih (k + 1) f (by omega) (by omega)
      rw [Tb_aliveAfter_L6_r, if_neg (by rw [nI_leI (by omega) (by omega)]; omega), nI_add, Tb_afterYear_spec (by omega), bind_so, nI_1]
      exact nx
  exact key n 0 100000 (by omega) (by omega)
/-- the years that they all still live, together -/
def yrs (T : Nat → Int32) (a : Nat) : Nat → Int32
  | 0 => 0
  | k + 1 => yrs T a k + alN T a (k + 1)
theorem M_expect_spec {σ : MS} {a : Nat} (ha : a ≤ 99) : M_expect σ (nI a) = some (yrs (σ.2.1 33) a (99 - a)) := by
  have key : ∀ (m k fu : Nat), k + m = 99 - a → m < fu → M_expect_L16_r σ fu (nI a) (yrs (σ.2.1 33) a k) (nI (k + 1)) = some (yrs (σ.2.1 33) a (99 - a)) := by
    intro m
    induction m with
    | zero =>
      intro k fu hk hf
      obtain ⟨f, rfl, -⟩ := fuel hf
      have hk : k = 99 - a := by omega
      subst hk
      rw [M_expect_L16_r, nI_add, if_pos (by rw [show (99 : Int32) = nI 99 from rfl, nI_ltI (by omega) (by omega)]; omega)]
    | succ m ih =>
      intro k fu hk hf
      obtain ⟨f, rfl, hf2⟩ := fuel hf
      have nx := ih (k + 1) f (by omega) (by omega)
      rw [M_expect_L16_r, nI_add, if_neg (by rw [show (99 : Int32) = nI 99 from rfl, nI_ltI (by omega) (by omega)]; omega), M_aliveAt_spec ha (by omega), bind_so, nI_1]
      exact nx
  unfold M_expect
  rw [M_in_eq, bind_so, b01_if, if_pos ⟨nI_le0 (by omega), by rw [show (99 : Int32) = nI 99 from rfl, nI_leI (by omega) (by omega)]; exact ha⟩]
  exact key (99 - a) 0 100000 (by omega) (by omega)
theorem Tb_yearsAhead_spec {τ : XS} {a : Nat} (ha : a ≤ 99) (hT : ∀ a, a < 100 → InR (τ.2.1 600 a) 0 1000) (h99 : τ.2.1 600 99 = 1000) : Tb_yearsAhead τ (nI a) = some (yrs (τ.2.1 600) a (99 - a)) := by
  have key : ∀ (m k fu : Nat), k + m = 100 - a → m < fu → Tb_yearsAhead_L8_r τ fu (alN (τ.2.1 600) a k) (yrs (τ.2.1 600) a k) (nI (a + k)) = some (yrs (τ.2.1 600) a (100 - a)) := by
    intro m
    induction m with
    | zero =>
      intro k fu hk hf
      obtain ⟨f, rfl, -⟩ := fuel hf
      have hk : k = 100 - a := by omega
      subst hk
      rw [Tb_yearsAhead_L8_r, if_pos (by rw [show (100 : Int32) = nI 100 from rfl, nI_leI (by omega) (by omega)]; omega)]
    | succ m ih =>
      intro k fu hk hf
      obtain ⟨f, rfl, hf2⟩ := fuel hf
      have nx := ih (k + 1) f (by omega) (by omega)
      rw [Tb_yearsAhead_L8_r, if_neg (by rw [show (100 : Int32) = nI 100 from rfl, nI_leI (by omega) (by omega)]; omega), Tb_afterYear_spec (by omega), bind_so, nI_1]
      exact nx
  have e : yrs (τ.2.1 600) a (100 - a) = yrs (τ.2.1 600) a (99 - a) := by
    rw [show 100 - a = (99 - a) + 1 by omega, yrs, alN_pos (by omega), show a + (99 - a) = 99 by omega, h99, nextA_1000 (alN_R hT a _)]
    exact Int32.add_zero _
  rw [← e]
  exact key (100 - a) 0 100000 (by omega) (by omega)
theorem rate_nz {σ : MS} (h : InR (σ.1 34) 0 20) : ((100 + σ.1 34).toInt64) ≠ 0 := by
  intro g
  have := congrArg Int64.toInt g
  obtain ⟨h1, h2⟩ := h
  rw [Int32.toInt_toInt64, Int32.toInt_add, show (100 : Int32).toInt = 100 from rfl, show (2 : Nat) ^ 32 = 4294967296 from rfl, Int.bmod_eq_of_le (by omega) (by omega), show (0 : Int64).toInt = 0 from rfl] at this
  omega
/-- what is paid in a year is worth so much less -/
def disc (r : Int32) : Nat → Int64
  | 0 => 1000000
  | k + 1 => (disc r k * 100) / ((100 + r).toInt64)
def wrt (T : Nat → Int32) (r : Int32) (c : Int64) (a : Nat) : Nat → Int64
  | 0 => 0
  | k + 1 => wrt T r c a k + (c * (alN T a (k + 1)).toInt64) * disc r (k + 1)
theorem M_worthOf_spec {σ : MS} {c : Int64} {a : Nat} (hr : InR (σ.1 34) 0 20) (hT : ∀ a, a < 100 → InR (σ.2.1 33 a) 0 1000) (ha : a ≤ 99) : M_worthOf σ c (nI a) = some (wrt (σ.2.1 33) (σ.1 34) c a (99 - a) / 1000000000000) := by
  have key : ∀ (m k fu : Nat), k + m = 99 - a → m < fu → M_worthOf_L16_r σ fu c (nI a) (wrt (σ.2.1 33) (σ.1 34) c a k) ((alN (σ.2.1 33) a k).toInt64) (disc (σ.1 34) k) (nI (k + 1)) = some (wrt (σ.2.1 33) (σ.1 34) c a (99 - a) / 1000000000000) := by
    intro m
    induction m with
    | zero =>
      intro k fu hk hf
      obtain ⟨f, rfl, -⟩ := fuel hf
      have hk : k = 99 - a := by omega
      subst hk
      rw [M_worthOf_L16_r, nI_add, if_pos (by rw [show (99 : Int32) = nI 99 from rfl, nI_ltI (by omega) (by omega)]; omega)]
    | succ m ih =>
      intro k fu hk hf
      obtain ⟨f, rfl, hf2⟩ := fuel hf
      have nx := ih (k + 1) f (by omega) (by omega)
      have m1 : nI (a + (k + 1)) - 1 = nI (a + k) := by rw [← Nat.add_assoc, ← nI_1, Int32.add_sub_cancel]
      rw [M_worthOf_L16_r, nI_add, if_neg (by rw [show (99 : Int32) = nI 99 from rfl, nI_ltI (by omega) (by omega)]; omega), m1, rd_nI (by omega) (by decide)]
      unfold nzl
      rw [if_neg (rate_nz hr), nI_1, ← nextA_64 (alN_R hT a k) (hT (a + k) (by omega)), ← alN_pos (by omega)]
      exact nx
  exact key (99 - a) 0 100000 (by omega) (by omega)
theorem Tb_worthOf_spec {τ : XS} {c : Int32} {a : Nat} (hr : InR (τ.1 601) 0 20) (hT : ∀ a, a < 100 → InR (τ.2.1 600 a) 0 1000) (h99 : τ.2.1 600 99 = 1000) (ha : a ≤ 99) : Tb_worthOf τ c (nI a) = some (wrt (τ.2.1 600) (τ.1 601) c.toInt64 a (99 - a) / 1000000000000) := by
  have nz : ((100 + τ.1 601).toInt64) ≠ 0 := rate_nz (σ := (fun _ => τ.1 601, fun _ _ => 0, fun _ => 0)) hr
  have key : ∀ (m k fu : Nat), k + m = 100 - a → m < fu → Tb_worthOf_L14_r τ fu c (alN (τ.2.1 600) a k) (disc (τ.1 601) k) (wrt (τ.2.1 600) (τ.1 601) c.toInt64 a k) (nI (a + k)) = some (wrt (τ.2.1 600) (τ.1 601) c.toInt64 a (100 - a) / 1000000000000) := by
    intro m
    induction m with
    | zero =>
      intro k fu hk hf
      obtain ⟨f, rfl, -⟩ := fuel hf
      have hk : k = 100 - a := by omega
      subst hk
      rw [Tb_worthOf_L14_r, if_pos (by rw [show (100 : Int32) = nI 100 from rfl, nI_leI (by omega) (by omega)]; omega)]
    | succ m ih =>
      intro k fu hk hf
      obtain ⟨f, rfl, hf2⟩ := fuel hf
      have nx := ih (k + 1) f (by omega) (by omega)
      rw [Tb_worthOf_L14_r, if_neg (by rw [show (100 : Int32) = nI 100 from rfl, nI_leI (by omega) (by omega)]; omega), Tb_afterYear_spec (by omega), bind_so, nI_1]
      unfold nzl
      rw [if_neg nz, ← Int64.mul_assoc, show (if a + k ≤ 99 then nextA (alN (τ.2.1 600) a k) (τ.2.1 600 (a + k)) else 0) = alN (τ.2.1 600) a (k + 1) from rfl]
      exact nx
  have e : wrt (τ.2.1 600) (τ.1 601) c.toInt64 a (100 - a) = wrt (τ.2.1 600) (τ.1 601) c.toInt64 a (99 - a) := by
    rw [show 100 - a = (99 - a) + 1 by omega, wrt, alN_pos (by omega), show a + (99 - a) = 99 by omega, h99, nextA_1000 (alN_R hT a _), show (0 : Int32).toInt64 = 0 from rfl, Int64.mul_zero, Int64.zero_mul]
    exact Int64.add_zero _
  rw [← e]
  exact key (100 - a) 0 100000 (by omega) (by omega)
section EASY
variable {A : MS → XS → Prop}
theorem st33 (hA : Stb A) : St33 (InvA A) := by
  intro σ τ xs i h
  have same : InvA A σ τ := h
  obtain ⟨np, ne, bl, hP, hB, hM, ha⟩ := h
  have hP1 := hP.1
  obtain ⟨m1, m2, m3, m4, m5, m6, m7, m8, m9, m10, m11, m12, m13, m14, m15, m16, m17, m18, m19⟩ := hM
  generalize xs (i + 1) = p0
  generalize xs (i + 2) = p1
  unfold W_alive M_alive
  rw [M_in_eq, M_in_eq, W_isAge_eq, in_if1]
  simp only [bind_so, b01_if]
  by_cases c : 0 ≤ p0 ∧ p0 ≤ 99
  case neg =>
    rw [if_neg c, if_neg c]
    exact ⟨_, rfl, rfl, same⟩
  rw [if_pos c, if_pos c]
  by_cases c1 : 0 ≤ p1 ∧ p1 ≤ 100
  case neg =>
    rw [if_neg c1, if_neg c1]
    exact ⟨_, rfl, rfl, same⟩
  rw [if_pos c1, if_pos c1]
  obtain ⟨a, hA', rfl⟩ := inN (n := 100) ⟨c.1, by have := c.2; rw [i32_le] at this; rw [i32_lt]; exact Int.lt_add_one_of_le this⟩ (by omega)
  obtain ⟨n, hn, rfl⟩ := inN (n := 101) ⟨c1.1, by have := c1.2; rw [i32_le] at this; rw [i32_lt]; exact Int.lt_add_one_of_le this⟩ (by omega)
  rw [M_aliveAt_spec (by omega) (by omega), Tb_aliveAfter_spec (by omega) (by omega), m6.1]
  exact ⟨_, rfl, rfl, same⟩
theorem st34 (hA : Stb A) : St34 (InvA A) := by
  intro σ τ xs i h
  have same : InvA A σ τ := h
  obtain ⟨np, ne, bl, hP, hB, hM, ha⟩ := h
  have hP1 := hP.1
  obtain ⟨m1, m2, m3, m4, m5, m6, m7, m8, m9, m10, m11, m12, m13, m14, m15, m16, m17, m18, m19⟩ := hM
  generalize xs (i + 1) = p0
  unfold W_expect
  rw [W_isAge_eq]
  simp only [bind_so, b01_if]
  by_cases c : 0 ≤ p0 ∧ p0 ≤ 99
  case neg =>
    rw [if_neg c]
    unfold M_expect
    rw [M_in_eq, bind_so, b01_if, if_neg c]
    exact ⟨_, rfl, rfl, same⟩
  rw [if_pos c]
  obtain ⟨a, hA', rfl⟩ := inN (n := 100) ⟨c.1, by have := c.2; rw [i32_le] at this; rw [i32_lt]; exact Int.lt_add_one_of_le this⟩ (by omega)
  rw [M_expect_spec (by omega), Tb_yearsAhead_spec (by omega) (by rw [m6.1]; exact m6.2.1) (by rw [m6.1]; exact m6.2.2), m6.1]
  exact ⟨_, rfl, rfl, same⟩
theorem st36 (hA : Stb A) : St36 (InvA A) := by
  intro σ τ xs i h
  have same : InvA A σ τ := h
  obtain ⟨np, ne, bl, hP, hB, hM, ha⟩ := h
  have hP1 := hP.1
  obtain ⟨m1, m2, m3, m4, m5, m6, m7, m8, m9, m10, m11, m12, m13, m14, m15, m16, m17, m18, m19⟩ := hM
  generalize xs (i + 1) = p0
  generalize xs (i + 2) = p1
  unfold W_worth M_worth
  rw [M_in_eq, M_in_eq, W_isAge_eq, in_if1]
  simp only [bind_so, b01_if]
  by_cases c : 0 ≤ p1 ∧ p1 ≤ 99
  case neg =>
    rw [if_neg c, if_neg c]
    refine ⟨_, rfl, ?_, same⟩
    split <;> rfl
  rw [if_pos c, if_pos c]
  by_cases c1 : 0 ≤ p0 ∧ p0 ≤ 9999
  case neg =>
    rw [if_neg c1, if_neg c1]
    exact ⟨_, rfl, rfl, same⟩
  rw [if_pos c1, if_pos c1]
  obtain ⟨a, hA', rfl⟩ := inN (n := 100) ⟨c.1, by have := c.2; rw [i32_le] at this; rw [i32_lt]; exact Int.lt_add_one_of_le this⟩ (by omega)
  rw [M_worthOf_spec m7.1 m6.2.1 (by omega), Tb_worthOf_spec (by rw [m7.2]; exact m7.1) (by rw [m6.1]; exact m6.2.1) (by rw [m6.1]; exact m6.2.2) (by omega), m6.1, m7.2]
  exact ⟨_, rfl, rfl, same⟩
end EASY
