/-! dues, tax, arrears: owe -/
theorem crossSS {V : Type} {f : MS → Option (V × MS)} {g : XS → Option (V × XS)} {σ : MS} {τ : XS} (h : ∀ σ' τ', Rm σ σ' → Rx τ τ' → ∃ v σ1 τ1, f σ' = some (v, σ1) ∧ Rm σ σ1 ∧ g τ' = some (v, τ1) ∧ Rx τ τ1) : ∃ v, QM σ f v ∧ QX τ g v := by
  obtain ⟨v, σ1, τ1, h1, h2, h3, h4⟩ := h σ τ (Rm.refl σ) (Rx.refl τ)
  refine ⟨v, fun σ' hm => ?_, fun τ' hx => ?_⟩
  · obtain ⟨v', σ2, τ2, a, b, c, d⟩ := h σ' τ hm (Rx.refl τ)
    rw [h3] at c
    rw [(Prod.mk.inj (Option.some.inj c)).1]
    exact ⟨σ2, a, b⟩
  · obtain ⟨v', σ2, τ2, a, b, c, d⟩ := h σ τ' (Rm.refl σ) hx
    rw [h1] at a
    rw [(Prod.mk.inj (Option.some.inj a)).1]
    exact ⟨τ2, c, d⟩
theorem i64T {x : Int} (h1 : -9223372036854775808 ≤ x) (h2 : x < 9223372036854775808) : (Int64.ofInt x).toInt = x := by
  have e : Int64.size = 18446744073709551616 := rfl
  rw [Int64.toInt_ofInt, e]
  exact Int.bmod_eq_of_le (by omega) (by omega)
theorem i32T {x : Int} (h1 : -2147483648 ≤ x) (h2 : x < 2147483648) : (Int32.ofInt x).toInt = x := by
  have e : Int32.size = 4294967296 := rfl
  rw [Int32.toInt_ofInt, e]
  exact Int.bmod_eq_of_le (by omega) (by omega)
theorem i64_of {v : Int32} {x : Int} (e : v.toInt = x) : v.toInt64 = Int64.ofInt x := by
  apply Int64.toInt_inj.mp
  have b1 := Int32.le_toInt v
  have b2 := Int32.toInt_lt v
  rw [Int32.toInt_toInt64, e, i64T (by omega) (by omega)]
/-! the first by days -/
section FST
variable {S : Nat → Prop} {K : Nat} {d : Nat → Int32}
theorem FirstP.zero : FirstP S 0 d (-1) := Or.inl ⟨rfl, fun _ h => absurd h (Nat.not_lt_zero _)⟩
theorem FirstP.skip {r : Int32} (h : FirstP S K d r) (hs : ¬ S K) : FirstP S (K + 1) d r := by
  rcases h with ⟨rfl, h⟩ | ⟨i, hi, rfl, hs', h⟩
  · exact Or.inl ⟨rfl, fun i hi => by
      rcases Nat.lt_or_eq_of_le (Nat.le_of_lt_succ hi) with g | rfl
      · exact h i g
      · exact hs⟩
  · exact Or.inr ⟨i, by omega, rfl, hs', fun j hj g => by
      rcases Nat.lt_or_eq_of_le (Nat.le_of_lt_succ hj) with g2 | rfl
      · exact h j g2 g
      · exact absurd g hs⟩
theorem FirstP.take {r : Int32} (h : FirstP S K d r) (hs : S K) (hK : K < 2 ^ 31) (hr : r = -1 ∨ ∃ i, i < K ∧ r = nI i ∧ d K < d i) : FirstP S (K + 1) d (nI K) := by
  refine Or.inr ⟨K, Nat.lt_succ_self _, rfl, hs, fun j hj g => ?_⟩
  rcases Nat.lt_or_eq_of_le (Nat.le_of_lt_succ hj) with g2 | rfl
  · rcases h with ⟨rfl, h⟩ | ⟨i, hi, rfl, hs', h⟩
    · exact absurd g (h j g2)
    · rcases hr with e | ⟨i', hi', e, hd⟩
      · exact absurd e (nI_ne_m1 (by omega))
      · have : i = i' := (nI_eq (by omega) (by omega)).mp e
        subst this
        have a := h j g2 g
        rw [i32_lt, i32_eq] at a
        rw [i32_lt, i32_eq]
        rw [i32_lt] at hd
        omega
  · exact Or.inr ⟨rfl, Nat.le_refl _⟩
theorem FirstP.keep {r : Int32} {i : Nat} (h : FirstP S K d r) (hK : K < 2 ^ 31) (hr : i < K ∧ r = nI i) (hd : ¬ d K < d i) : FirstP S (K + 1) d r := by
  obtain ⟨hi', rfl⟩ := hr
  rcases h with ⟨e, h⟩ | ⟨i', hi, e, hs', h⟩
  · exact absurd e (nI_ne_m1 (by omega))
  · have : i = i' := (nI_eq (by omega) (by omega)).mp e
    subst this
    exact Or.inr ⟨i, by omega, rfl, hs', fun j hj g => by
      rcases Nat.lt_or_eq_of_le (Nat.le_of_lt_succ hj) with g2 | rfl
      · exact h j g2 g
      · rw [i32_lt] at hd
        rw [i32_lt, i32_eq]
        omega⟩
end FST
def SW (σ : MS) (p : Int32) (i : Nat) : Prop := σ.2.1 43 i ≠ 0 ∧ σ.2.1 8 i = 1 ∧ σ.2.1 9 i = p
theorem M_firstWedding_spec (σ : MS) {K : Nat} (hK : σ.1 45 = nI K) (hK2 : K ≤ 200) (p : Int32) : ∃ r, M_firstWedding σ p = some r ∧ FirstP (SW σ p) K (σ.2.1 11) r := by
  have key : ∀ (m i : Nat) (r : Int32) (fu : Nat), i + m = K → m < fu → FirstP (SW σ p) i (σ.2.1 11) r → ∃ r', M_firstWedding_L4_r σ fu p r (nI i) = some r' ∧ FirstP (SW σ p) K (σ.2.1 11) r' := by
    intro m
    induction m with
    | zero =>
      intro i r fu hi hf hr
      obtain ⟨f, rfl, -⟩ := fuel hf
      have hi : i = K := by omega
      subst hi
      exact ⟨r, by rw [M_firstWedding_L4_r, hK, if_pos (Int32.le_refl _)], hr⟩
    | succ m ih =>
      intro i r fu hi hf hr
      obtain ⟨f, rfl, hf2⟩ := fuel hf
      have hlt : i < 200 := by omega
      have nx := ih (i + 1)
      rw [← nI_1] at nx
      have skip : ¬ SW σ p i → ∃ r', M_firstWedding_L4_r σ f p r (nI i + 1) = some r' ∧ FirstP (SW σ p) K (σ.2.1 11) r' := fun hs => nx r f (by omega) (by omega) (hr.skip hs)
      rw [M_firstWedding_L4_r, hK, if_neg (nI_ge (by omega) (by omega))]
      simp only [rd_nI hlt (show 200 < 2 ^ 31 by decide), M_firstWedding_J45, M_firstWedding_J46, M_firstWedding_J77, M_firstWedding_J78, M_firstWedding_J73, if_true]
      by_cases h1 : σ.2.1 43 i = 0
      · rw [if_pos h1]; exact skip fun g => g.1 h1
      rw [if_neg h1]
      by_cases h2 : σ.2.1 8 i = 1
      case neg => rw [if_neg h2]; exact skip fun g => h2 g.2.1
      rw [if_pos h2]
      by_cases h3 : σ.2.1 9 i = p
      case neg => rw [if_neg h3]; exact skip fun g => h3 g.2.2
      rw [if_pos h3, if_neg n10]
      by_cases hm : r = -1
      · rw [if_pos hm]
        exact nx _ f (by omega) (by omega) (hr.take ⟨h1, h2, h3⟩ (by omega) (Or.inl hm))
      rw [if_neg hm]
      rcases id hr with ⟨e, -⟩ | ⟨j, hj, e, -⟩
      · exact absurd e hm
      subst e
      simp only [rd_nI (show j < 200 by omega) (show 200 < 2 ^ 31 by decide)]
      by_cases h6 : σ.2.1 11 j ≤ σ.2.1 11 i
      · rw [if_pos h6]
        exact nx _ f (by omega) (by omega) (hr.keep (by omega) ⟨hj, rfl⟩ (by rw [i32_le] at h6; rw [i32_lt]; omega))
      · rw [if_neg h6]
        exact nx _ f (by omega) (by omega) (hr.take ⟨h1, h2, h3⟩ (by omega) (Or.inr ⟨j, hj, rfl, by rw [i32_le] at h6; rw [i32_lt]; omega⟩))
  obtain ⟨r, h1, h2⟩ := key K 0 (-1) 100000 (by omega) (by omega) FirstP.zero
  exact ⟨r, h1, h2⟩
/-- what a member is asked, with the steps -/
def memM (σ : MS) (s p d : Int32) : Option (Int32 × MS) := (M_isMember σ p d).bind fun r1 => (if r1 = 0 then some (0, σ) else (M_ruled σ s p d d).bind (pq fun r2 r2s => ((M_stepped r2s s r2).bind fun r3 => (some (r3, r2s)))))
def memX (τ : XS) (s p d : Int32) : Option (Int32 × XS) := (Lv_standing τ p d).bind fun r1 => (if r1 = 1 then Cn_comesTo τ s p d else some (0, τ))
/-- a call's value -/
def vM (σ : MS) (f : MS → Option (Int32 × MS)) : Int32 := ((f σ).map Prod.fst).getD 0
theorem QM.val {σ : MS} {f : MS → Option (Int32 × MS)} {v : Int32} (h : QM σ f v) : vM σ f = v := by
  obtain ⟨s, a, -⟩ := h σ (Rm.refl σ)
  unfold vM
  rw [a]
  rfl
section OWE
variable {σ σ' : MS} {τ τ' : XS} {K np ne na : Nat} {bl od : List Nat} {hh : Nat → Nat}
theorem CV.mem (h : CV σ τ K np ne bl na hh od) {s : Int32} (hs : Stq s) {p : Nat} (hp : p < np) {d : Int32} (hd : -1 ≤ d.toInt ∧ d.toInt ≤ 10000) : ∃ u, InR u 0 29997 ∧ QM σ (fun t => memM t s (nI p) d) u ∧ QX τ (fun t => memX t s (nI p) d) u := by
  obtain ⟨v, v0, v1, -, v3⟩ := h.std hp d
  have v1' : ∀ σ', Rm σ σ' → M_isMember σ' (nI p) d = some (if v = 1 then 1 else 0) := v1
  have v3' : ∀ τ', Rx τ τ' → Lv_standing τ' (nI p) d = some v := v3
  by_cases c : v = 1
  · obtain ⟨w, u, w1, w2, w3, w4, w5, -⟩ := h.comes s (p0 := nI p) (d := d) (Or.inr ⟨p, hp, rfl⟩) hd
    have w5' : ∀ σ', Rm σ σ' → M_stepped σ' s w = some u := w5 hs
    refine ⟨u, w2, fun σ' hm => ?_, fun τ' hx => ?_⟩
    · obtain ⟨σ1, q1, q2⟩ := w3 σ' hm
      have q1' : M_ruled σ' s (nI p) d d = some (w, σ1) := q1
      refine ⟨σ1, ?_, q2⟩
      show memM σ' s (nI p) d = _
      unfold memM
      rw [v1' σ' hm, bind_so, if_pos c, if_neg n10, q1', bind_pq, w5' σ1 q2, bind_so]
    · obtain ⟨τ1, q1, q2⟩ := w4 τ' hx
      refine ⟨τ1, ?_, q2⟩
      show memX τ' s (nI p) d = _
      unfold memX
      rw [v3' τ' hx, bind_so, if_pos c]
      exact q1
  · refine ⟨0, ⟨by decide, by decide⟩, fun σ' hm => ⟨σ', ?_, hm⟩, fun τ' hx => ⟨τ', ?_, hx⟩⟩
    · show memM σ' s (nI p) d = _
      unfold memM
      rw [v1' σ' hm, bind_so, if_neg c, if_pos rfl]
    · show memX τ' s (nI p) d = _
      unfold memX
      rw [v3' τ' hx, bind_so, if_neg c]
theorem yd (Y : Nat) : nI Y * 100 = nI (100 * Y) := by rw [show (100 : Int32) = nI 100 from rfl, nI_mul, Nat.mul_comm]
theorem yd' (Y : Nat) : 100 * nI Y = nI (100 * Y) := by rw [show (100 : Int32) = nI 100 from rfl, nI_mul]
theorem dI {n : Nat} (h : n ≤ 10000) : -1 ≤ (nI n).toInt ∧ (nI n).toInt ≤ 10000 := by rw [nI_i (by omega)]; omega
theorem CV.due (h : CV σ τ K np ne bl na hh od) {p : Nat} (hp : p < np) {Y : Nat} (hY : Y < 100) : ∃ u, InR u 0 29997 ∧ QM σ (fun s => M_dueOf s (nI p) (nI (100 * Y))) u ∧ QX τ (fun t => Cn_duesOf t (nI p) (nI Y)) u.toInt64 := by
  obtain ⟨u, u0, u1, u2⟩ := h.mem (s := 0) (Or.inl rfl) hp (d := nI (100 * Y)) (dI (by omega))
  refine ⟨u, u0, u1, fun τ' hx => ?_⟩
  obtain ⟨τ1, q1, q2⟩ := u2 τ' hx
  have q1' : memX τ' 0 (nI p) (nI (100 * Y)) = some (u, τ1) := q1
  refine ⟨τ1, ?_, q2⟩
  show Cn_duesOf τ' (nI p) (nI Y) = _
  unfold Cn_duesOf
  unfold memX at q1'
  obtain ⟨v, v0, v1, -, v3⟩ := h.std hp (nI (100 * Y))
  have v3' : Lv_standing τ' (nI p) (nI (100 * Y)) = some v := v3 τ' hx
  rw [yd]
  rw [v3', bind_so] at q1' ⊢
  by_cases c : v = 1
  · rw [if_pos c] at q1' ⊢
    rw [q1', bind_pq]
  · rw [if_neg c] at q1' ⊢
    have q := Option.some.inj q1'
    rw [← (Prod.mk.inj q).1, ← (Prod.mk.inj q).2]
    rfl
/-- the tax of an entry's day -/
def tx (σ : MS) (p e : Nat) : Int := (vM σ (fun s => memM s 3 (nI p) (σ.2.1 11 e))).toInt
/-- the weddings that are taxed -/
def TxS (σ : MS) (K p : Nat) (y : Int32) (e : Nat) : Prop := SW σ (nI p) e ∧ σ.2.1 11 e / 100 = y ∧ ∃ x, x < K ∧ SW σ (nI p) x ∧ ltD (σ.2.1 11) x e
theorem ofI_add (a b : Int) : Int32.ofInt a + Int32.ofInt b = Int32.ofInt (a + b) := (Int32.ofInt_add a b).symm
theorem CV.txR (h : CV σ τ K np ne bl na hh od) {p e : Nat} (hp : p < np) (he : e < K) (hs : σ.2.1 43 e ≠ 0) : 0 ≤ tx σ p e ∧ tx σ p e ≤ 29997 := by
  obtain ⟨-, -, g⟩ := h.2.1.2.2.2.2.2.2.2.1 e he hs
  obtain ⟨u, u0, u1, -⟩ := h.mem (s := 3) (Or.inr (Or.inr rfl)) hp (d := σ.2.1 11 e) (by omega)
  unfold tx
  rw [u1.val]
  exact u0
theorem M_taxOf_spec (h : CV σ τ K np ne bl na hh od) {p : Nat} (hp : p < np) (y : Int32) : QM σ (fun s => M_taxOf s (nI p) y) (Int32.ofInt (sumL (tx σ p) (fl (TxS σ K p y) K))) := by
  have hK : K ≤ 200 := h.2.1.1
  have hk : σ.1 45 = nI K := h.2.1.2.2.1
  intro σ' hm
  obtain ⟨r, f1, f2⟩ := M_firstWedding_spec σ' (K := K) ((hm.1 45 (by decide) (by decide) (by decide)).trans hk) hK (nI p)
  have eSW : SW σ' (nI p) = SW σ (nI p) := by
    unfold SW
    rw [hm.2.1 43 (by decide), hm.2.1 8 (by decide), hm.2.1 9 (by decide)]
  rw [eSW, hm.2.1 11 (by decide)] at f2
  have notFirst : ∀ e, e < K → SW σ (nI p) e → (nI e ≠ r ↔ ∃ x, x < K ∧ SW σ (nI p) x ∧ ltD (σ.2.1 11) x e) := by
    intro e he hs
    rcases f2 with ⟨-, g⟩ | ⟨i, hi, rfl, si, g⟩
    · exact absurd hs (g e he)
    · constructor
      · intro q
        refine ⟨i, hi, si, ?_⟩
        have ne' : e ≠ i := fun c => q (by rw [c])
        rcases g e he hs with a | ⟨a, b⟩
        · exact Or.inl a
        · exact Or.inr ⟨a.symm, by omega⟩
      · rintro ⟨x, hx, sx, lx⟩ q
        have := (nI_eq (by omega) (by omega)).mp q
        subst this
        have a := g x hx sx
        unfold ltD at lx
        rw [i32_lt, i32_eq] at a lx
        omega
  have key : ∀ (m i fu : Nat) (σ' : MS), i + m = K → m < fu → Rm σ σ' → ∃ σ1, M_taxOf_L12_r fu σ' (nI p) y (Int32.ofInt (sumL (tx σ p) (fl (TxS σ K p y) i))) r (nI i) = some (Int32.ofInt (sumL (tx σ p) (fl (TxS σ K p y) K)), σ1) ∧ Rm σ σ1 := by
    intro m
    induction m with
    | zero =>
      intro i fu σ' hi hf hm
      obtain ⟨f, rfl, -⟩ := fuel hf
      have hi : i = K := by omega
      subst hi
      exact ⟨σ', by rw [M_taxOf_L12_r, hm.1 45 (by decide) (by decide) (by decide), hk, if_pos (Int32.le_refl _)], hm⟩
    | succ m ih =>
      intro i fu σ' hi hf hm
      obtain ⟨f, rfl, hf2⟩ := fuel hf
      have hlt : i < 200 := by omega
      have nx := fun σ' hm => ih (i + 1) f σ' (by omega) (by omega) hm
      rw [M_taxOf_L12_r, hm.1 45 (by decide) (by decide) (by decide), hk, if_neg (nI_ge (by omega) (by omega))]
      simp only [rd_nI hlt (show 200 < 2 ^ 31 by decide), M_taxOf_J78, M_taxOf_J79, M_taxOf_J130, M_taxOf_J131, M_yearOf, bind_so, if_true, hm.2.1 43 (by decide), hm.2.1 8 (by decide), hm.2.1 9 (by decide), hm.2.1 11 (by decide), nI_1]
      have skip : ∀ σ', Rm σ σ' → ¬ TxS σ K p y i → ∃ σ1, M_taxOf_L12_r f σ' (nI p) y (Int32.ofInt (sumL (tx σ p) (fl (TxS σ K p y) i)) + 0) r (nI (i + 1)) = some (Int32.ofInt (sumL (tx σ p) (fl (TxS σ K p y) K)), σ1) ∧ Rm σ σ1 := by
        intro σ' hm hs
        rw [Int32.add_zero]
        have := nx σ' hm
        rw [fl_neg hs] at this
        exact this
      by_cases h1 : σ.2.1 43 i = 0
      · rw [if_pos h1]; exact skip σ' hm fun g => g.1.1 h1
      rw [if_neg h1]
      by_cases h2 : σ.2.1 8 i = 1
      case neg => rw [if_neg h2]; exact skip σ' hm fun g => h2 g.1.2.1
      rw [if_pos h2]
      by_cases h3 : σ.2.1 9 i = nI p
      case neg => rw [if_neg h3]; exact skip σ' hm fun g => h3 g.1.2.2
      rw [if_pos h3]
      by_cases h4 : nI i = r
      · rw [if_pos h4]; exact skip σ' hm fun g => (notFirst i (by omega) g.1).mpr g.2.2 h4
      rw [if_neg h4]
      by_cases h5 : σ.2.1 11 i / 100 = y
      case neg => rw [if_neg h5]; exact skip σ' hm fun g => h5 g.2.1
      rw [if_pos h5, if_neg n10]
      have hs : TxS σ K p y i := ⟨⟨h1, h2, h3⟩, h5, (notFirst i (by omega) ⟨h1, h2, h3⟩).mp h4⟩
      obtain ⟨-, -, gd⟩ := h.2.1.2.2.2.2.2.2.2.1 i (by omega) h1
      have hd : -1 ≤ (σ.2.1 11 i).toInt ∧ (σ.2.1 11 i).toInt ≤ 10000 := by omega
      obtain ⟨u, u0, u1, -⟩ := h.mem (s := 3) (Or.inr (Or.inr rfl)) hp hd
      have et : tx σ p i = u.toInt := by
        unfold tx
        rw [u1.val]
      have nx' : ∀ σ', Rm σ σ' → ∃ σ1, M_taxOf_L12_r f σ' (nI p) y (Int32.ofInt (sumL (tx σ p) (fl (TxS σ K p y) i)) + u) r (nI (i + 1)) = some (Int32.ofInt (sumL (tx σ p) (fl (TxS σ K p y) K)), σ1) ∧ Rm σ σ1 := by
        intro σ' hm
        have := nx σ' hm
        rw [fl_pos hs, sumL_app, sumL_one, et, Int32.ofInt_add, Int32.ofInt_toInt] at this
        exact this
      obtain ⟨σ1, q1, q2⟩ := u1 σ' hm
      have q1' : memM σ' 3 (nI p) (σ.2.1 11 i) = some (u, σ1) := q1
      unfold memM at q1'
      obtain ⟨v, v0, v1, -, -⟩ := h.std hp (σ.2.1 11 i)
      have v1' : M_isMember σ' (nI p) (σ.2.1 11 i) = some (if v = 1 then 1 else 0) := v1 σ' hm
      rw [v1', bind_so] at q1' ⊢
      by_cases cv : v = 1
      · rw [if_pos cv, if_neg n10] at q1' ⊢
        obtain ⟨w, u', -, -, w3, -, w5, -⟩ := h.comes 3 (p0 := nI p) (Or.inr ⟨p, hp, rfl⟩) hd
        obtain ⟨σ2, y1, y2⟩ := w3 σ' hm
        have y1' : M_ruled σ' 3 (nI p) (σ.2.1 11 i) (σ.2.1 11 i) = some (w, σ2) := y1
        have y3 : M_stepped σ2 3 w = some u' := w5 (Or.inr (Or.inr rfl)) σ2 y2
        rw [y1', bind_pq, y3, bind_so] at q1' ⊢
        have eu : u' = u := (Prod.mk.inj (Option.some.inj q1')).1
        rw [eu]
        exact nx' σ2 y2
      · rw [if_neg cv, if_pos rfl] at q1' ⊢
        have eu : 0 = u := (Prod.mk.inj (Option.some.inj q1')).1
        rw [eu]
        exact nx' σ' hm
  obtain ⟨σ1, k1, k2⟩ := key K 0 100000 σ' (by omega) (by omega) hm
  refine ⟨σ1, ?_, k2⟩
  show M_taxOf σ' (nI p) y = _
  unfold M_taxOf M_taxOf_L12
  rw [f1, bind_so]
  exact k1
theorem Cn_taxOf_spec (h : CV σ τ K np ne bl na hh od) {p : Nat} (hp : p < np) (hs : σ.2.1 2 p = 0) (y : Int32) : QX τ (fun s => Cn_taxOf s (nI p) y) (Int64.ofInt (sumL (tx σ p) (fl (TxS σ K p y) K))) := by
  have h24 : p < 24 := by have := h.1.1.1; omega
  have hV := h.2.1
  obtain ⟨hK, hnp, hk, -, -, ha, -, hw, hsg⟩ := hV
  obtain ⟨a, l, sg, hm⟩ := hsg p hp
  -- an own entry that is a wedding is the man's
  have own : ∀ e, e ∈ l → σ.2.1 8 e = 1 → e < K ∧ SW σ (nI p) e := by
    intro e he h8
    obtain ⟨g1, g2, g3, g4⟩ := (hm e).mp he
    refine ⟨g1, g2, h8, ?_⟩
    rcases g4 with g | ⟨-, g⟩
    · exact g
    · exfalso
      obtain ⟨-, ⟨q, hq, eq, hw1⟩, -⟩ := hw e g1 g2
      obtain ⟨-, w, hw2, ew, sw⟩ := hw1 h8
      have : w = p := (nI_eq (by omega) (by omega)).mp (ew.symm.trans g)
      subst this
      rw [sw] at hs
      exact absurd hs (by decide)
  have own' : ∀ e, e < K → SW σ (nI p) e → e ∈ l := fun e he g => (hm e).mpr ⟨he, g.1, by rw [g.2.1]; decide, Or.inl g.2.2⟩
  have perm : sumL (tx σ p) (flL (TxS σ K p y) l) = sumL (tx σ p) (fl (TxS σ K p y) K) := by
    refine sumL_perm (perm_of (flL_nodup sg.nodup) fl_nodup fun e => ?_)
    rw [flL_mem, fl_mem]
    exact ⟨fun g => ⟨(own e g.1 g.2.1.2.1).1, g.2⟩, fun g => ⟨own' e g.1 g.2.1, g.2⟩⟩
  rw [← perm]
  have r403 : ∀ τ', Rx τ τ' → τ'.2.1 403 p = nI (a + l.length) := fun τ' hx => by rw [hx.2.1 403 (by decide) (by decide)]; exact sg.2.2.1
  have key : ∀ (s pre : List Nat) (fu : Nat) (τ' : XS) (b : Int32), pre ++ s = l → s.length < fu → Rx τ τ' → ((b = 1 ∧ ∀ x, x ∈ pre → σ.2.1 8 x ≠ 1) ∨ (b = 0 ∧ ∃ x, x ∈ pre ∧ σ.2.1 8 x = 1)) → ∃ τ1, Cn_taxOf_L16_r fu τ' (nI p) y (Int64.ofInt (sumL (tx σ p) (flL (TxS σ K p y) pre))) b (nI (a + pre.length)) = some (Int64.ofInt (sumL (tx σ p) (flL (TxS σ K p y) l)), τ1) ∧ Rx τ τ1 := by
    intro s
    induction s with
    | nil =>
      intro pre fu τ' b hl hf hx hb
      obtain ⟨f, rfl, -⟩ := fuel hf
      rw [List.append_nil] at hl
      subst hl
      exact ⟨τ', by rw [Cn_taxOf_L16_r, rd_nI h24 (by decide), r403 τ' hx, if_pos (Int32.le_refl _)], hx⟩
    | cons e s ih =>
      intro pre fu τ' b hl hf hx hb
      obtain ⟨f, rfl, hf2⟩ := fuel hf
      have he : e ∈ l := by rw [← hl]; simp
      have sg' := sg
      rw [← hl] at sg'
      obtain ⟨q1, q2, q3, q4, q5⟩ := sg'.at
      have l400 := sg.2.2.2.1
      have len : l.length = pre.length + (s.length + 1) := by rw [← hl, List.length_append, List.length_cons]
      have nx := fun τ' b hx hb => ih (pre ++ [e]) f τ' b (by rw [← hl]; simp) (by rw [List.length_cons] at hf2; omega) hx hb
      simp only [List.length_append, List.length_singleton, ← Nat.add_assoc, flL_app] at nx
      rw [Cn_taxOf_L16_r, rd_nI h24 (by decide), r403 τ' hx, if_neg (nI_ge (by omega) (by omega)), rd_nI q3 (by decide), hx.2.1 404 (by decide) (by decide), q1, rd_nI q2 (by decide), hx.2.1 107 (by decide) (by decide), ha.2.2.2.2.1]
      simp only [Cn_taxOf_J114, Cn_taxOf_J111, nI_1]
      by_cases c1 : σ.2.1 8 e = 1
      case neg =>
        rw [if_neg c1]
        have ng : ¬ TxS σ K p y e := fun g => c1 g.1.2.1
        have := nx τ' b hx (by
          rcases hb with ⟨b1, b2⟩ | ⟨b1, x, b2, b3⟩
          · refine Or.inl ⟨b1, fun x hx => ?_⟩
            rcases List.mem_append.mp hx with g | g
            · exact b2 x g
            · rw [List.mem_singleton] at g; rw [g]; exact c1
          · exact Or.inr ⟨b1, x, List.mem_append_left _ b2, b3⟩)
        rw [flL_neg (a := e) ng, flL_nil, List.append_nil] at this
        exact this
      rw [if_pos c1, rd_nI q2 (by decide), hx.2.1 110 (by decide) (by decide), ha.2.2.2.2.2.2.2.1]
      obtain ⟨eK, eSW⟩ := own e he c1
      have hb' : ∀ _ : XS, ((0 : Int32) = 1 ∧ ∀ x, x ∈ pre ++ [e] → σ.2.1 8 x ≠ 1) ∨ ((0 : Int32) = 0 ∧ ∃ x, x ∈ pre ++ [e] ∧ σ.2.1 8 x = 1) := fun _ => Or.inr ⟨rfl, e, by simp, c1⟩
      have skip : ¬ TxS σ K p y e → ∃ τ1, Cn_taxOf_L16_r f τ' (nI p) y (Int64.ofInt (sumL (tx σ p) (flL (TxS σ K p y) pre))) 0 (nI (a + pre.length + 1)) = some (Int64.ofInt (sumL (tx σ p) (flL (TxS σ K p y) l)), τ1) ∧ Rx τ τ1 := by
        intro ng
        have := nx τ' 0 hx (hb' τ')
        rw [flL_neg (a := e) ng, flL_nil, List.append_nil] at this
        exact this
      -- earlier weddings are those ahead in the list
      have ahead : (∃ x, x < K ∧ SW σ (nI p) x ∧ ltD (σ.2.1 11) x e) ↔ ∃ x, x ∈ pre ∧ σ.2.1 8 x = 1 := by
        rw [ha.2.2.2.2.2.2.2.1] at q4 q5
        constructor
        · rintro ⟨x, x1, x2, x3⟩
          refine ⟨x, ?_, x2.2.1⟩
          have xl := own' x x1 x2
          rw [← hl] at xl
          rcases List.mem_append.mp xl with g | g
          · exact g
          · exfalso
            unfold ltD at x3
            rw [i32_lt, i32_eq] at x3
            rcases List.mem_cons.mp g with g | g
            · rw [g] at x3; omega
            · have := q5 x g
              unfold ltD at this
              rw [i32_lt, i32_eq] at this
              omega
        · rintro ⟨x, x1, x2⟩
          obtain ⟨g1, g2⟩ := own x (by rw [← hl]; exact List.mem_append_left _ x1) x2
          exact ⟨x, g1, g2, q4 x x1⟩
      by_cases c2 : b = 0
      case neg =>
        rw [if_neg c2]
        refine skip fun g => ?_
        rcases hb with ⟨b1, b2⟩ | ⟨b1, -⟩
        · obtain ⟨x, x1, x2⟩ := ahead.mp g.2.2
          exact b2 x x1 x2
        · exact c2 b1
      rw [if_pos c2]
      by_cases c3 : σ.2.1 11 e / 100 = y
      case neg =>
        rw [if_neg c3]
        exact skip fun g => c3 g.2.1
      rw [if_pos c3]
      have hT : TxS σ K p y e := ⟨eSW, c3, ahead.mpr (by
        rcases hb with ⟨b1, -⟩ | ⟨-, b2⟩
        · rw [c2] at b1; exact absurd b1 (by decide)
        · exact b2)⟩
      obtain ⟨-, -, gd⟩ := hw e eK eSW.1
      have hd : -1 ≤ (σ.2.1 11 e).toInt ∧ (σ.2.1 11 e).toInt ≤ 10000 := by omega
      obtain ⟨u, u0, u1, u2⟩ := h.mem (s := 3) (Or.inr (Or.inr rfl)) hp hd
      have et : tx σ p e = u.toInt := by
        unfold tx
        rw [u1.val]
      have e64 : Int64.ofInt u.toInt = u.toInt64 := (i64_of rfl).symm
      have nx' : ∀ τ', Rx τ τ' → ∃ τ1, Cn_taxOf_L16_r f τ' (nI p) y (Int64.ofInt (sumL (tx σ p) (flL (TxS σ K p y) pre)) + u.toInt64) 0 (nI (a + pre.length + 1)) = some (Int64.ofInt (sumL (tx σ p) (flL (TxS σ K p y) l)), τ1) ∧ Rx τ τ1 := by
        intro τ' hx
        have := nx τ' 0 hx (hb' τ')
        rw [flL_pos (a := e) hT, flL_nil, sumL_app, sumL_one, et, Int64.ofInt_add, e64] at this
        exact this
      obtain ⟨τ1, z1, z2⟩ := u2 τ' hx
      have z1' : memX τ' 3 (nI p) (σ.2.1 11 e) = some (u, τ1) := z1
      unfold memX at z1'
      obtain ⟨v, v0, -, -, v3⟩ := h.std hp (σ.2.1 11 e)
      have v3' : Lv_standing τ' (nI p) (σ.2.1 11 e) = some v := v3 τ' hx
      rw [v3', bind_so] at z1' ⊢
      by_cases cv : v = 1
      · rw [if_pos cv] at z1' ⊢
        rw [z1', bind_pq]
        exact nx' τ1 z2
      · rw [if_neg cv] at z1' ⊢
        have eu : 0 = u := (Prod.mk.inj (Option.some.inj z1')).1
        have := nx' τ' hx
        rw [← eu, show (0 : Int32).toInt64 = 0 from rfl, Int64.add_zero] at this
        exact this
  intro τ' hx
  obtain ⟨τ1, k1, k2⟩ := key l [] 100000 τ' 1 rfl (by have := sg.2.2.2.1; omega) hx (Or.inl ⟨rfl, fun x hx => absurd hx List.not_mem_nil⟩)
  refine ⟨τ1, ?_, k2⟩
  show Cn_taxOf τ' (nI p) y = _
  unfold Cn_taxOf Cn_taxOf_L16
  rw [rd_nI h24 (by decide), hx.2.1 402 (by decide) (by decide), sg.2.1]
  exact k1
theorem CV.taxR (h : CV σ τ K np ne bl na hh od) {p : Nat} (hp : p < np) (y : Int32) : 0 ≤ sumL (tx σ p) (fl (TxS σ K p y) K) ∧ sumL (tx σ p) (fl (TxS σ K p y) K) ≤ 6000000 := by
  have hK : K ≤ 200 := h.2.1.1
  have b := sumL_le (f := tx σ p) (l := fl (TxS σ K p y) K) (B := 29997) fun e he => by
    obtain ⟨g1, g2⟩ := fl_mem.mp he
    exact h.txR hp g1 g2.1.1
  have l := fl_len (S := TxS σ K p y) (K := K)
  refine ⟨b.1, Int.le_trans b.2 ?_⟩
  omega
/-- coins paid -/
noncomputable def pdN (σ : MS) (K p : Nat) (y : Int32) : Int := sumL (fun e => (σ.2.1 10 e).toInt) (fl (SPaid σ (nI p) y) K)
theorem CV.paid (h : CV σ τ K np ne bl na hh od) {p : Nat} (hp : p < np) (y : Int32) : (0 ≤ pdN σ K p y ∧ pdN σ K p y ≤ 2000000) ∧ UM σ (fun s => M_paidBy s (nI p) y) (Int32.ofInt (pdN σ K p y)) ∧ UX τ (fun t => Lv_paidIn t (nI p) y) (Int64.ofInt (pdN σ K p y)) := by
  have hK : K ≤ 200 := h.2.1.1
  have hk : σ.1 45 = nI K := h.2.1.2.2.1
  refine ⟨?_, fun σ' hm => ?_, fun τ' hx => ?_⟩
  · have b := sumL_le (f := fun e => (σ.2.1 10 e).toInt) (l := fl (SPaid σ (nI p) y) K) (B := 9999) fun e he => by
      obtain ⟨g1, g2⟩ := fl_mem.mp he
      rcases h.1.2.1.2.2.2.2.2.2.2.2.1 e (by have := h.2.2.1; omega) with ⟨g, -⟩ | ⟨-, -, q, -, -, -, -, -, -, -, g⟩
      · rw [g2.2.1] at g; exact absurd g (by decide)
      · have := g g2.2.1
        exact ⟨by have := this.1; omega, this.2⟩
    have l := fl_len (S := SPaid σ (nI p) y) (K := K)
    refine ⟨b.1, Int.le_trans b.2 ?_⟩
    omega
  · show M_paidBy σ' (nI p) y = _
    rw [M_paidBy_spec σ' (K := K) ((hm.1 45 (by decide) (by decide) (by decide)).trans hk) hK]
    unfold pdN SPaid
    rw [hm.2.1 43 (by decide), hm.2.1 8 (by decide), hm.2.1 9 (by decide), hm.2.1 10 (by decide), hm.2.1 11 (by decide)]
  · obtain ⟨l, l1, l2, -, l4⟩ := (h.2.1.rx hx).paid hp y
    show Lv_paidIn τ' (nI p) y = _
    rw [l4]
    unfold pdN
    rw [sumL_perm (perm_of l1 fl_nodup fun e => by rw [l2, fl_mem])]
/-- dues and tax of a year -/
theorem CV.dueTax (h : CV σ τ K np ne bl na hh od) {p : Nat} (hp : p < np) (hs : σ.2.1 2 p = 0) {Y : Nat} (hY : Y < 100) : ∃ (u : Int32) (t : Int), InR u 0 29997 ∧ (0 ≤ t ∧ t ≤ 6000000) ∧ QM σ (fun s => M_dueOf s (nI p) (nI (100 * Y))) u ∧ QX τ (fun t => Cn_duesOf t (nI p) (nI Y)) u.toInt64 ∧ QM σ (fun s => M_taxOf s (nI p) (nI Y)) (Int32.ofInt t) ∧ QX τ (fun s => Cn_taxOf s (nI p) (nI Y)) (Int64.ofInt t) := by
  obtain ⟨u, u0, u1, u2⟩ := h.due hp hY
  exact ⟨u, _, u0, h.taxR hp (nI Y), u1, u2, M_taxOf_spec h hp (nI Y), Cn_taxOf_spec h hp hs (nI Y)⟩
theorem CV.arrears (h : CV σ τ K np ne bl na hh od) {p : Nat} (hp : p < np) (hs : σ.2.1 2 p = 0) {Y : Nat} (hY : Y < 100) : ∃ a : Int64, QM σ (fun s => M_arrears s (nI p) (nI Y)) a ∧ QX τ (fun t => Cn_arrearsOf t (nI p) (nI Y)) a := by
  refine crossSS fun σ' τ' hm hx => ?_
  have key : ∀ (m y fu fu' : Nat) (σ' : MS) (τ' : XS) (a : Int64), y + m = Y + 1 → m < fu → m < fu' → Rm σ σ' → Rx τ τ' → ∃ v σ1 τ1, M_arrears_L5_r fu σ' (nI p) (nI Y) a (nI y) = some (v, σ1) ∧ Rm σ σ1 ∧ Cn_arrearsOf_L5_r fu' τ' (nI p) (nI Y) a (nI y) = some (v, τ1) ∧ Rx τ τ1 := by
    intro m
    induction m with
    | zero =>
      intro y fu fu' σ' τ' a hy hf hf' hm hx
      obtain ⟨f, rfl, -⟩ := fuel hf
      obtain ⟨f', rfl, -⟩ := fuel hf'
      exact ⟨a, σ', τ', by rw [M_arrears_L5_r, if_pos ((nI_ltI (by omega) (by omega)).mpr (by omega))], hm, by rw [Cn_arrearsOf_L5_r, if_pos ((nI_ltI (by omega) (by omega)).mpr (by omega))], hx⟩
    | succ m ih =>
      intro y fu fu' σ' τ' a hy hf hf' hm hx
      obtain ⟨f, rfl, hf2⟩ := fuel hf
      obtain ⟨f', rfl, hf2'⟩ := fuel hf'
      have nx := fun σ' τ' a hm hx => ih (y + 1) f f' σ' τ' a (by omega) (by omega) (by omega) hm hx
      obtain ⟨u, t, u0, t0, u1, u2, t1, t2⟩ := h.dueTax hp hs (Y := y) (by omega)
      obtain ⟨⟨P0, P1⟩, p1, p2⟩ := h.paid hp (nI y)
      obtain ⟨σ1, a1, a2⟩ := u1 σ' hm
      have a1' : M_dueOf σ' (nI p) (nI (100 * y)) = some (u, σ1) := a1
      obtain ⟨σ2, b1, b2⟩ := t1 σ1 a2
      have b1' : M_taxOf σ1 (nI p) (nI y) = some (Int32.ofInt t, σ2) := b1
      have c1 : M_paidBy σ2 (nI p) (nI y) = some _ := p1 σ2 b2
      obtain ⟨τ1, d1, d2⟩ := u2 τ' hx
      have d1' : Cn_duesOf τ' (nI p) (nI y) = some (u.toInt64, τ1) := d1
      obtain ⟨τ2, e1, e2⟩ := t2 τ1 d2
      have e1' : Cn_taxOf τ1 (nI p) (nI y) = some (Int64.ofInt t, τ2) := e1
      have f1 : Lv_paidIn τ2 (nI p) (nI y) = some _ := p2 τ2 e2
      have hlt : ¬ nI Y < nI y := by rw [nI_ltI (by omega) (by omega)]; omega
      have eq1 : ((u + Int32.ofInt t) - Int32.ofInt (pdN σ K p (nI y))).toInt64 = (u.toInt64 + Int64.ofInt t) - Int64.ofInt (pdN σ K p (nI y)) := by
        have q0 := u0.1
        have q1 := u0.2
        rw [i64_of (x := u.toInt + t - pdN σ K p (nI y)) ?_, Int64.ofInt_sub, Int64.ofInt_add, ← i64_of (v := u) rfl]
        rw [Int32.toInt_sub, Int32.toInt_add, i32T (x := t) (by omega) (by omega), i32T (x := pdN σ K p (nI y)) (by omega) (by omega), show (2 : Nat) ^ 32 = 4294967296 from rfl, Int.bmod_eq_of_le (n := u.toInt + t) (by omega) (by omega), Int.bmod_eq_of_le (by omega) (by omega)]
      have ed : ((nI (100 * y) + 100) - 1 : Int32) = nI (100 * y + 99) := by
        rw [show (100 : Int32) = nI 100 from rfl, nI_add, nI_pred]
      rw [M_arrears_L5_r, Cn_arrearsOf_L5_r, if_neg hlt, if_neg hlt, yd', a1', bind_pq, b1', bind_pq, c1, bind_so, d1', bind_pq, e1', bind_pq, f1, bind_so, eq1, yd, ed, show (99 : Int32) = nI 99 from rfl, nI_add]
      generalize a + ((u.toInt64 + Int64.ofInt t) - Int64.ofInt (pdN σ K p (nI y))) = A
      simp only [M_arrears_J95, M_arrears_J94, Cn_arrearsOf_J80, nI_1]
      by_cases cA : lg_cmp A 0 ≤ 0
      · rw [if_pos cA, if_pos cA]
        exact nx σ2 τ2 A b2 e2
      rw [if_neg cA, if_neg cA]
      obtain ⟨w, v, -, -, w3, w4, -, w6, -⟩ := h.comes 5 (p0 := nI p) (d := nI (100 * y + 99)) (Or.inr ⟨p, hp, rfl⟩) (dI (by omega))
      have ev : v = w := w6 (by unfold Stq; decide)
      subst ev
      obtain ⟨σ3, g1, g2⟩ := w3 σ2 b2
      have g1' : M_ruled σ2 5 (nI p) (nI (100 * y + 99)) (nI (100 * y + 99)) = some (v, σ3) := g1
      obtain ⟨τ3, k1, k2⟩ := w4 τ2 e2
      have k1' : Cn_comesTo τ2 5 (nI p) (nI (100 * y + 99)) = some (v, τ3) := k1
      rw [g1', bind_pq, k1', bind_pq]
      unfold mnJ
      by_cases cB : (1000000000000 : Int64) < A + (A * v.toInt64) / 100
      · rw [if_pos cB, if_pos ((lg_cmp_ge _ _).mpr (Int64.le_of_lt cB))]
        exact nx σ3 τ3 _ g2 k2
      · rw [if_neg cB]
        by_cases cC : A + (A * v.toInt64) / 100 = 1000000000000
        · rw [if_pos ((lg_cmp_ge _ _).mpr (by rw [cC]; exact Int64.le_refl _)), cC]
          exact nx σ3 τ3 _ g2 k2
        · rw [if_neg]
          · exact nx σ3 τ3 _ g2 k2
          · intro q
            have := (lg_cmp_ge _ _).mp q
            rw [Int64.le_iff_toInt_le] at this
            rw [Int64.lt_iff_toInt_lt] at cB
            exact cC (Int64.toInt_inj.mp (by omega))
  obtain ⟨v, σ1, τ1, k1, k2, k3, k4⟩ := key (Y + 1) 0 100000 100000 σ' τ' 0 (by omega) (by omega) (by omega) hm hx
  exact ⟨v, σ1, τ1, k1, k2, k3, k4⟩
theorem M_isMan_nI (hP : PplI σ τ np) {p : Nat} (hp : p < np) : M_isMan σ (nI p) = some (b01 (σ.2.1 2 p = 0)) := by
  have := hP.1
  unfold M_isMan
  rw [M_isPerson_eq hP.1 hP.2.1, bind_so, b01_if, if_pos ⟨nI_le0 (by omega), by rw [nI_ltI (by omega) (by omega)]; exact hp⟩, rd_nI (by omega) (by decide)]
  unfold b01
  by_cases c : σ.2.1 2 p = 0
  · rw [if_pos c, if_pos c]
  · rw [if_neg c, if_neg c]
end OWE
theorem st21 : St21 (InvA ActI) := by
  intro σ τ xs i h
  have same : InvA ActI σ τ := h
  obtain ⟨np, ne, bl, hP, hB, hM, ha⟩ := h
  have hP1 := hP.1
  generalize xs (i + 1) = p0
  generalize xs (i + 2) = p1
  generalize xs (i + 3) = p2
  generalize xs (i + 4) = p3
  unfold W_owe M_owe
  rw [Bk_isReach_eq hB.2.2.1, M_isBy_eq hB.2.1, W_isYear_eq, M_isYear_eq, M_in_eq]
  simp only [bind_so, b01_if]
  by_cases c : 0 ≤ p0 ∧ p0 < nI np
  case neg =>
    have e1 : M_isMan σ p0 = some 0 := by
      unfold M_isMan
      rw [M_isPerson_eq hP.1 hP.2.1, bind_so, b01_if, if_neg c]
    have e2 : Bk_isMan τ p0 = some 0 := by
      unfold Bk_isMan
      rw [Bk_isPerson_eq hP.2.2.1, bind_so, b01_if, if_neg c]
    rw [e1, e2, bind_so, bind_so, if_pos rfl, if_pos rfl]
    exact ⟨_, _, _, rfl, rfl, same⟩
  obtain ⟨p, hp, rfl⟩ := inN c (by omega)
  rw [M_isMan_nI hP hp, Bk_isMan_nI hP hp, bind_so, bind_so, b01_if, b01_if]
  by_cases cs : σ.2.1 2 p = 0
  case neg =>
    rw [if_neg cs, if_neg cs]
    exact ⟨_, _, _, rfl, rfl, same⟩
  rw [if_pos cs, if_pos cs]
  by_cases cy : 0 ≤ p1 ∧ p1 ≤ 99
  case neg =>
    rw [if_neg cy, if_neg cy]
    exact ⟨_, _, _, rfl, rfl, same⟩
  rw [if_pos cy, if_pos cy]
  obtain ⟨Y, hY, rfl⟩ := inRn (k := p1) (n := 99) ⟨i32_le.mp cy.1, i32_le.mp cy.2⟩ (by decide)
  by_cases c1 : -1 ≤ p2 ∧ p2 ≤ nI ne
  case neg =>
    rw [if_neg c1, if_neg c1]
    exact ⟨_, _, _, rfl, rfl, same⟩
  rw [if_pos c1, if_pos c1]
  obtain ⟨na, hh, od, cb⟩ := InvA.cb hP hB hM ha
  obtain ⟨K, σl, τl, q1, q2, cv, sM, sX⟩ := cb.read c1
  have fin : ∀ σ2 τ2, Rm σl σ2 → Rx τl τ2 → InvA ActI σ2 τ2 := fun σ2 τ2 a b => same.same ActI_stb (sM.trans a.same) (sX.trans b.same)
  have hs : σl.2.1 2 p = 0 := by rw [sM.2.1 2 (by decide) (by decide) (by decide)]; exact cs
  rw [q2, bind_pq]
  by_cases c4 : 0 ≤ p3 ∧ p3 ≤ 3
  case neg =>
    have d0 : ¬ p3 = 0 := fun g => c4 (by rw [g]; decide)
    have d1 : ¬ p3 = 1 := fun g => c4 (by rw [g]; decide)
    have d2 : ¬ p3 = 2 := fun g => c4 (by rw [g]; decide)
    have d3 : ¬ p3 = 3 := fun g => c4 (by rw [g]; decide)
    rw [if_neg c4, if_neg d0, if_neg d1, if_neg d2, if_neg d3]
    exact ⟨_, _, _, rfl, rfl, same.same ActI_stb SameM.rfl sX⟩
  rw [if_pos c4, q1, bind_pq]
  obtain ⟨w, hw, rfl⟩ := inRn (k := p3) (n := 3) ⟨i32_le.mp c4.1, i32_le.mp c4.2⟩ (by decide)
  obtain ⟨u, t, u0, t0, u1, u2, t1, t2⟩ := cv.dueTax hp hs (Y := Y) (by omega)
  rcases (show w = 0 ∨ w = 1 ∨ w = 2 ∨ w = 3 by omega) with rfl | rfl | rfl | rfl
  · obtain ⟨σ2, y1, y2⟩ := u1 σl (Rm.refl σl)
    have y1' : M_dueOf σl (nI p) (nI (100 * Y)) = some (u, σ2) := y1
    obtain ⟨τ2, z1, z2⟩ := u2 τl (Rx.refl τl)
    have z1' : Cn_duesOf τl (nI p) (nI Y) = some (u.toInt64, τ2) := z1
    rw [if_pos (show nI 0 = 0 from rfl), if_pos (show nI 0 = 0 from rfl), yd', y1', z1', bind_pq, bind_pq]
    exact ⟨_, _, _, rfl, rfl, fin _ _ y2 z2⟩
  · obtain ⟨σ2, y1, y2⟩ := t1 σl (Rm.refl σl)
    have y1' : M_taxOf σl (nI p) (nI Y) = some (Int32.ofInt t, σ2) := y1
    obtain ⟨τ2, z1, z2⟩ := t2 τl (Rx.refl τl)
    have z1' : Cn_taxOf τl (nI p) (nI Y) = some (Int64.ofInt t, τ2) := z1
    rw [if_neg (show ¬ nI 1 = 0 by decide), if_neg (show ¬ nI 1 = 0 by decide), if_pos (show nI 1 = 1 from rfl), if_pos (show nI 1 = 1 from rfl), y1', z1', bind_pq, bind_pq]
    refine ⟨_, _, _, rfl, ?_, fin _ _ y2 z2⟩
    rw [i64_of (x := t) (i32T (by omega) (by omega))]
  · obtain ⟨a, a1, a2⟩ := cv.arrears hp hs (Y := Y) (by omega)
    obtain ⟨σ2, y1, y2⟩ := a1 σl (Rm.refl σl)
    have y1' : M_arrears σl (nI p) (nI Y) = some (a, σ2) := y1
    obtain ⟨τ2, z1, z2⟩ := a2 τl (Rx.refl τl)
    have z1' : Cn_arrearsOf τl (nI p) (nI Y) = some (a, τ2) := z1
    rw [if_neg (show ¬ nI 2 = 0 by decide), if_neg (show ¬ nI 2 = 0 by decide), if_neg (show ¬ nI 2 = 1 by decide), if_neg (show ¬ nI 2 = 1 by decide), if_pos (show nI 2 = 2 from rfl), if_pos (show nI 2 = 2 from rfl), y1', z1', bind_pq, bind_pq]
    exact ⟨_, _, _, rfl, rfl, fin _ _ y2 z2⟩
  · obtain ⟨⟨P0, P1⟩, p1, p2⟩ := cv.paid hp (nI Y)
    have y1' : M_paidBy σl (nI p) (nI Y) = some _ := p1 σl (Rm.refl σl)
    have z1' : Lv_paidIn τl (nI p) (nI Y) = some _ := p2 τl (Rx.refl τl)
    rw [if_neg (show ¬ nI 3 = 0 by decide), if_neg (show ¬ nI 3 = 0 by decide), if_neg (show ¬ nI 3 = 1 by decide), if_neg (show ¬ nI 3 = 1 by decide), if_neg (show ¬ nI 3 = 2 by decide), if_neg (show ¬ nI 3 = 2 by decide), if_pos (show nI 3 = 3 from rfl), y1', z1', bind_so, bind_so]
    refine ⟨_, _, _, rfl, ?_, fin _ _ (Rm.refl σl) (Rx.refl τl)⟩
    rw [i64_of (x := pdN σl K p (nI Y)) (i32T (by omega) (by omega))]
