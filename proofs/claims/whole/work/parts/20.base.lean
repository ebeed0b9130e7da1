/-! LAYER 2, pure: numbers, reads and writes, the last and the first of a set of entries by days -/
theorem rd_nI {α β : Type} {f : Nat → α} {N i : Nat} {k : α → Option β} (h : i < N) (hN : N < 2 ^ 31) : rd f N (nI i) k = k (f i) := by
  unfold rd
  rw [if_neg (nI_in h hN), nI_clamp (by omega)]
theorem wr_nI {β : Type} {N i : Nat} {k : Option β} (h : i < N) (hN : N < 2 ^ 31) : wr N (nI i) k = k := by
  unfold wr
  rw [if_neg (nI_in h hN)]
theorem cl_nI {i : Nat} (h : i < 2 ^ 31) : (nI i).toNatClampNeg = i := nI_clamp h
theorem bz_0 {β : Type} {k : Option β} : bz 0 k = k := by unfold bz; rw [if_pos (Or.inl rfl)]
theorem bz_1 {β : Type} {k : Option β} : bz 1 k = k := by unfold bz; rw [if_pos (Or.inr rfl)]
theorem nar0 : vp_nar .boolean 0 = 0 := by decide
theorem nar1 : vp_nar .boolean 1 = 1 := by decide
theorem i32_lt {a b : Int32} : a < b ↔ a.toInt < b.toInt := Int32.lt_iff_toInt_lt
theorem i32_le {a b : Int32} : a ≤ b ↔ a.toInt ≤ b.toInt := Int32.le_iff_toInt_le
theorem i32_eq {a b : Int32} : a = b ↔ a.toInt = b.toInt := Int32.toInt_inj.symm
theorem nI_i {n : Nat} (h : n < 2 ^ 31) : (nI n).toInt = (n : Int) := nI_toInt h
theorem lit_m1 : (-1 : Int32).toInt = -1 := rfl
theorem nI_ne_m1 {n : Nat} (h : n < 2 ^ 31) : nI n ≠ -1 := fun e => by rw [i32_eq, nI_i h, lit_m1] at e; omega
theorem nI_lit0 : (0 : Int32) = nI 0 := rfl
theorem nI_not_lt0 {n : Nat} (h : n < 2 ^ 31) : ¬ nI n < 0 := nI_pos h
theorem nI_le0 {n : Nat} (h : n < 2 ^ 31) : 0 ≤ nI n := nI_pos' h
theorem pq_app {α β γ : Type} {f : α → β → γ} {a : α} {b : β} : pq f (a, b) = f a b := rfl
/-- an index out of an int: below 0, from n on, or a number below n -/
theorem ix3 (x : Int32) {n : Nat} (hn : n < 2 ^ 31) : x < 0 ∨ nI n ≤ x ∨ ∃ j, j < n ∧ x = nI j := pk_ix x hn
section LAST
variable {S : Nat → Prop} {K : Nat} {d : Nat → Int32}
/-- r is the last of the entries below K with S, by (d, number); -1 if there is none -/
def LastP (S : Nat → Prop) (K : Nat) (d : Nat → Int32) (r : Int32) : Prop := (r = -1 ∧ ∀ i, i < K → ¬ S i) ∨ ∃ i, i < K ∧ r = nI i ∧ S i ∧ ∀ j, j < K → S j → d j < d i ∨ (d j = d i ∧ j ≤ i)
/-- likewise the first one -/
def FirstP (S : Nat → Prop) (K : Nat) (d : Nat → Int32) (r : Int32) : Prop := (r = -1 ∧ ∀ i, i < K → ¬ S i) ∨ ∃ i, i < K ∧ r = nI i ∧ S i ∧ ∀ j, j < K → S j → d i < d j ∨ (d j = d i ∧ i ≤ j)
theorem LastP.uniq {r r' : Int32} (h : LastP S K d r) (h' : LastP S K d r') : r = r' := by
  rcases h with ⟨rfl, h⟩ | ⟨i, hi, rfl, hs, h⟩
  · rcases h' with ⟨rfl, -⟩ | ⟨j, hj, rfl, hs', -⟩
    · rfl
    · exact absurd hs' (h j hj)
  · rcases h' with ⟨rfl, h'⟩ | ⟨j, hj, rfl, hs', h'⟩
    · exact absurd hs (h' i hi)
    · have a := h j hj hs'
      have b := h' i hi hs
      rw [i32_lt, i32_eq] at a b
      have : i = j := by omega
      rw [this]
theorem FirstP.uniq {r r' : Int32} (h : FirstP S K d r) (h' : FirstP S K d r') : r = r' := by
  rcases h with ⟨rfl, h⟩ | ⟨i, hi, rfl, hs, h⟩
  · rcases h' with ⟨rfl, -⟩ | ⟨j, hj, rfl, hs', -⟩
    · rfl
    · exact absurd hs' (h j hj)
  · rcases h' with ⟨rfl, h'⟩ | ⟨j, hj, rfl, hs', h'⟩
    · exact absurd hs (h' i hi)
    · have a := h j hj hs'
      have b := h' i hi hs
      rw [i32_lt, i32_eq] at a b
      have : i = j := by omega
      rw [this]
theorem LastP.congr {S' : Nat → Prop} {r : Int32} (h : LastP S K d r) (e : ∀ i, i < K → (S i ↔ S' i)) : LastP S' K d r := by
  rcases h with ⟨rfl, h⟩ | ⟨i, hi, rfl, hs, h⟩
  · exact Or.inl ⟨rfl, fun i hi g => h i hi ((e i hi).mpr g)⟩
  · exact Or.inr ⟨i, hi, rfl, (e i hi).mp hs, fun j hj g => h j hj ((e j hj).mpr g)⟩
theorem FirstP.congr {S' : Nat → Prop} {r : Int32} (h : FirstP S K d r) (e : ∀ i, i < K → (S i ↔ S' i)) : FirstP S' K d r := by
  rcases h with ⟨rfl, h⟩ | ⟨i, hi, rfl, hs, h⟩
  · exact Or.inl ⟨rfl, fun i hi g => h i hi ((e i hi).mpr g)⟩
  · exact Or.inr ⟨i, hi, rfl, (e i hi).mp hs, fun j hj g => h j hj ((e j hj).mpr g)⟩
theorem LastP.zero : LastP S 0 d (-1) := Or.inl ⟨rfl, fun _ h => absurd h (Nat.not_lt_zero _)⟩
theorem LastP.skip {r : Int32} (h : LastP S K d r) (hs : ¬ S K) : LastP S (K + 1) d r := by
  rcases h with ⟨rfl, h⟩ | ⟨i, hi, rfl, hs', h⟩
  · exact Or.inl ⟨rfl, fun i hi => by
      rcases Nat.lt_or_eq_of_le (Nat.le_of_lt_succ hi) with g | rfl
      · exact h i g
      · exact hs⟩
  · exact Or.inr ⟨i, by omega, rfl, hs', fun j hj g => by
      rcases Nat.lt_or_eq_of_le (Nat.le_of_lt_succ hj) with g2 | rfl
      · exact h j g2 g
      · exact absurd g hs⟩
theorem LastP.take {r : Int32} (h : LastP S K d r) (hs : S K) (hK : K < 2 ^ 31) (hr : r = -1 ∨ ∃ i, i < K ∧ r = nI i ∧ ¬ d K < d i) : LastP S (K + 1) d (nI K) := by
  refine Or.inr ⟨K, Nat.lt_succ_self _, rfl, hs, fun j hj g => ?_⟩
  rcases Nat.lt_or_eq_of_le (Nat.le_of_lt_succ hj) with g2 | rfl
  · rcases h with ⟨rfl, h⟩ | ⟨i, hi, rfl, hs', h⟩
    · exact absurd g (h j g2)
    · rcases hr with e | ⟨i', hi', e, hd⟩
      · exact absurd e (nI_ne_m1 (by omega))
      · have : i = i' := (nI_eq (by omega) (by omega)).mp e
        subst this
        have a := h j g2 g
        rw [i32_lt, i32_eq] at a ⊢
        rw [i32_lt] at hd
        omega
  · exact Or.inr ⟨rfl, Nat.le_refl _⟩
theorem LastP.keep {r : Int32} {i : Nat} (h : LastP S K d r) (hK : K < 2 ^ 31) (hr : i < K ∧ r = nI i) (hd : d K < d i) : LastP S (K + 1) d r := by
  obtain ⟨hi', rfl⟩ := hr
  rcases h with ⟨e, h⟩ | ⟨i', hi, e, hs', h⟩
  · exact absurd e (nI_ne_m1 (by omega))
  · have : i = i' := (nI_eq (by omega) (by omega)).mp e
    subst this
    exact Or.inr ⟨i, by omega, rfl, hs', fun j hj g => by
      rcases Nat.lt_or_eq_of_le (Nat.le_of_lt_succ hj) with g2 | rfl
      · exact h j g2 g
      · exact Or.inl hd⟩
end LAST
section FL
/-- the numbers below K with S, in their order -/
noncomputable def fl (S : Nat → Prop) (K : Nat) : List Nat := (List.range K).filter (fun i => @decide (S i) (Classical.propDecidable _))
theorem fl_0 {S : Nat → Prop} : fl S 0 = [] := rfl
theorem fl_pos {S : Nat → Prop} {K : Nat} (h : S K) : fl S (K + 1) = fl S K ++ [K] := by
  unfold fl
  rw [List.range_succ, List.filter_append]
  congr 1
  simp [h]
theorem fl_neg {S : Nat → Prop} {K : Nat} (h : ¬ S K) : fl S (K + 1) = fl S K := by
  unfold fl
  rw [List.range_succ, List.filter_append]
  simp [h]
theorem fl_mem {S : Nat → Prop} {K i : Nat} : i ∈ fl S K ↔ i < K ∧ S i := by
  unfold fl
  simp [List.mem_filter]
theorem fl_nodup {S : Nat → Prop} {K : Nat} : (fl S K).Nodup := List.Nodup.sublist List.filter_sublist List.nodup_range
theorem fl_len {S : Nat → Prop} {K : Nat} : (fl S K).length ≤ K := by
  have := List.length_filter_le (fun i => @decide (S i) (Classical.propDecidable _)) (List.range K)
  rw [List.length_range] at this
  exact this
theorem fl_congr {S S' : Nat → Prop} {K : Nat} (h : ∀ i, i < K → (S i ↔ S' i)) : fl S K = fl S' K := by
  unfold fl
  apply List.filter_congr
  intro i hi
  rw [List.mem_range] at hi
  simp [h i hi]
/-- the sum of f over a list -/
def sumL (f : Nat → Int) (l : List Nat) : Int := (l.map f).sum
theorem sumL_nil {f : Nat → Int} : sumL f [] = 0 := rfl
theorem sumL_app {f : Nat → Int} {a b : List Nat} : sumL f (a ++ b) = sumL f a + sumL f b := by
  unfold sumL; rw [List.map_append, List.sum_append]
theorem sumL_one {f : Nat → Int} {a : Nat} : sumL f [a] = f a := by unfold sumL; simp
theorem sumL_cons {f : Nat → Int} {a : Nat} {l : List Nat} : sumL f (a :: l) = f a + sumL f l := by unfold sumL; simp
theorem sumL_perm {f : Nat → Int} {a b : List Nat} (h : a.Perm b) : sumL f a = sumL f b := by
  induction h with
  | nil => rfl
  | cons x _ ih => rw [sumL_cons, sumL_cons, ih]
  | swap x y l => rw [sumL_cons, sumL_cons, sumL_cons, sumL_cons]; omega
  | trans _ _ ih1 ih2 => rw [ih1, ih2]
theorem sumL_le {f : Nat → Int} {l : List Nat} {B : Int} (h : ∀ i, i ∈ l → 0 ≤ f i ∧ f i ≤ B) : 0 ≤ sumL f l ∧ sumL f l ≤ l.length * B := by
  induction l with
  | nil => rw [sumL_nil]; simp
  | cons a l ih =>
    have h1 := h a List.mem_cons_self
    have h2 := ih fun i hi => h i (List.mem_cons_of_mem _ hi)
    rw [sumL_cons, List.length_cons]
    constructor
    · omega
    · rw [Int.natCast_add, Int.add_mul]; simp; omega
theorem sumL_congr {f g : Nat → Int} {l : List Nat} (h : ∀ i, i ∈ l → f i = g i) : sumL f l = sumL g l := by
  unfold sumL; rw [List.map_congr_left h]
/-- two lists without repeats and with the same members -/
theorem perm_of {a b : List Nat} (ha : a.Nodup) (hb : b.Nodup) (h : ∀ i, i ∈ a ↔ i ∈ b) : a.Perm b := (List.perm_ext_iff_of_nodup ha hb).mpr h
end FL
section FLL
noncomputable def flL (M : Nat → Prop) (l : List Nat) : List Nat := l.filter (fun i => @decide (M i) (Classical.propDecidable _))
theorem flL_mem {M : Nat → Prop} {l : List Nat} {i : Nat} : i ∈ flL M l ↔ i ∈ l ∧ M i := by
  unfold flL
  simp [List.mem_filter]
theorem flL_app {M : Nat → Prop} {a b : List Nat} : flL M (a ++ b) = flL M a ++ flL M b := by unfold flL; rw [List.filter_append]
theorem flL_pos {M : Nat → Prop} {a : Nat} {l : List Nat} (h : M a) : flL M (a :: l) = a :: flL M l := by unfold flL; rw [List.filter_cons]; simp [h]
theorem flL_neg {M : Nat → Prop} {a : Nat} {l : List Nat} (h : ¬ M a) : flL M (a :: l) = flL M l := by unfold flL; rw [List.filter_cons]; simp [h]
theorem flL_none {M : Nat → Prop} {l : List Nat} (h : ∀ i, i ∈ l → ¬ M i) : flL M l = [] := by
  rw [List.eq_nil_iff_forall_not_mem]
  intro x hx
  exact h x (flL_mem.mp hx).1 (flL_mem.mp hx).2
theorem flL_nodup {M : Nat → Prop} {l : List Nat} (h : l.Nodup) : (flL M l).Nodup := List.Nodup.sublist List.filter_sublist h
theorem flL_len {M : Nat → Prop} {l : List Nat} : (flL M l).length ≤ l.length := List.length_filter_le _ _
theorem flL_nil {M : Nat → Prop} : flL M [] = [] := rfl
theorem flL_congr {M M' : Nat → Prop} {l : List Nat} (h : ∀ i, i ∈ l → (M i ↔ M' i)) : flL M l = flL M' l := by
  unfold flL
  apply List.filter_congr
  intro i hi
  simp [h i hi]
end FLL

theorem bind_pq {α β γ : Type} (a : α) (b : β) (f : α → β → Option γ) : (some (a, b)).bind (pq f) = f a b := rfl
theorem bind_so {α γ : Type} (a : α) (f : α → Option γ) : (some a).bind f = f a := rfl
