/-! sums to children -/
/-- 1 once some number below n is x -/
def lvN (W : Nat → Int32) (x : Int32) : Nat → Int32
  | 0 => 0
  | n + 1 => if lvN W x n = 0 then (if W n = x then 1 else 0) else 1
theorem lvN01 (W : Nat → Int32) (x : Int32) : ∀ n, lvN W x n = 0 ∨ lvN W x n = 1 := by
  intro n
  induction n with
  | zero => exact Or.inl rfl
  | succ n ih =>
    rw [lvN]
    by_cases c : lvN W x n = 0
    · rw [if_pos c]
      by_cases c2 : W n = x
      · rw [if_pos c2]; exact Or.inr rfl
      · rw [if_neg c2]; exact Or.inl rfl
    · rw [if_neg c]; exact Or.inr rfl
theorem lvN_mono {W : Nat → Int32} {x : Int32} {i : Nat} (h : ¬ lvN W x i = 0) : ∀ m, ¬ lvN W x (i + m) = 0 := by
  intro m
  induction m with
  | zero => exact h
  | succ m ih => rw [← Nat.add_assoc, lvN, if_neg ih]; decide
def sC (C : Nat → Int64) : Nat → Int64
  | 0 => 0
  | n + 1 => sC C n + C n
theorem sC_zero {C : Nat → Int64} : ∀ n, (∀ m, m < n → C m = 0) → sC C n = 0 := by
  intro n
  induction n with
  | zero => intro _; rfl
  | succ n ih => intro h; rw [sC, ih fun m hm => h m (by omega), h n (by omega), Int64.add_zero]
theorem sC_one {C : Nat → Int64} {f : Nat} : ∀ n, f < n → (∀ m, m < n → m ≠ f → C m = 0) → sC C n = C f := by
  intro n
  induction n with
  | zero => intro h _; exact absurd h (Nat.not_lt_zero _)
  | succ n ih =>
    intro h h2
    rw [sC]
    by_cases c : f = n
    · subst c
      rw [sC_zero f fun m hm => h2 m (by omega) (by omega), Int64.zero_add]
    · rw [ih (by omega) fun m hm => h2 m (by omega), h2 n (by omega) (fun g => c g.symm), Int64.add_zero]
theorem sC_congr {C C' : Nat → Int64} : ∀ n, (∀ m, m < n → C m = C' m) → sC C n = sC C' n := by
  intro n
  induction n with
  | zero => intro _; rfl
  | succ n ih => intro h; rw [sC, sC, ih fun m hm => h m (by omega), h n (by omega)]
def isM (σ : MS) (m y : Int32) : Option (Int32 × MS) := rd (σ.2.1 44) 24 m fun v1 => rd (σ.2.1 2) 24 m fun v2 => if v2 = 0 then if v1 = 10000 then some (0, σ) else if v1 / 100 = y then (M_counted σ m (v1 - 1)).bind (pq fun r7 r7s => (if r7 = 0 then some (0, r7s) else (M_leavesWidow r7s m v1).bind (pq fun r8 r8s => (if r8 = 0 then some (1, r8s) else some (0, r8s))))) else some (0, σ) else some (0, σ)
def bI (σ : MS) (m : Nat) (y : Int32) : Int32 := vM σ (fun s => isM s (nI m) y)
def wI (σ : MS) (m : Nat) : Int32 := vM σ (fun s => M_ruled s 2 (nI m) (σ.2.1 44 m - 1) (σ.2.1 44 m - 1))
def hI (σ : MS) (m p : Nat) : Int32 := vM σ (fun s => M_isHeir s (nI p) (nI m) (σ.2.1 44 m))
/-- how many heirs below q -/
noncomputable def hN (σ : MS) (m q : Nat) : Nat := (fl (fun p => hI σ m p = 1) q).length
/-- what a man leaves to all -/
noncomputable def cAll (σ : MS) (np : Nat) (y : Int32) (m : Nat) : Int64 := if bI σ m y = 0 then 0 else if hN σ m np = 0 then 0 else (wI σ m).toInt64
/-- and to one child -/
noncomputable def cOne (σ : MS) (np : Nat) (y : Int32) (q m : Nat) : Int64 := if bI σ m y = 0 then 0 else if hI σ m q = 0 then 0 else (wI σ m / nI (hN σ m np) + (if wI σ m - wI σ m / nI (hN σ m np) * nI (hN σ m np) ≤ nI (hN σ m q) then 0 else 1)).toInt64
section SUMS
variable {σ σ' : MS} {τ τ' : XS} {K np ne na : Nat} {bl od : List Nat} {hh : Nat → Nat}
/-- one who may inherit -/
theorem CV.heir (h : CV σ τ K np ne bl na hh od) {p m : Nat} (hp : p < np) (hm : m < np) (n4 : σ.2.1 44 m ≠ 10000) : ∃ v : Int32, (v = 0 ∨ v = 1) ∧ QM σ (fun s => M_isHeir s (nI p) (nI m) (σ.2.1 44 m)) v ∧ (v = 1 → σ.2.1 4 p = nI m) ∧ ∃ (lv ag L : Int32), UX τ (fun t => Lv_livesOn t (nI p) (σ.2.1 44 m)) lv ∧ UX τ (fun t => Bk_ageOn t (nI p) (σ.2.1 44 m)) ag ∧ QX τ (fun t => Cn_comesTo t 7 (-1) (σ.2.1 44 m)) L ∧ (v = if σ.2.1 4 p = nI m then (if lv = 0 then 0 else if L ≤ ag then 0 else 1) else 0) := by
  have h24 : p < 24 := by have := h.1.1.1; omega
  obtain ⟨dk, -, -⟩ := h.dies hm n4
  have hd : -1 ≤ (σ.2.1 44 m).toInt ∧ (σ.2.1 44 m).toInt ≤ 10000 := by unfold DayOk at dk; omega
  obtain ⟨lv, l0, l1, l2⟩ := h.lives hp (σ.2.1 44 m)
  obtain ⟨ag, -, a1, a2⟩ := h.age hp hd
  obtain ⟨w, L, -, -, w1, w2, -, w3, -⟩ := h.comes 7 (p0 := -1) (Or.inl rfl) hd
  have eL : L = w := w3 (by unfold Stq; decide)
  subst eL
  refine ⟨if σ.2.1 4 p = nI m then (if lv = 0 then 0 else if L ≤ ag then 0 else 1) else 0, ?_, fun σ' hm' => ?_, ?_, lv, ag, L, l2, a2, w2, rfl⟩
  · by_cases c1 : σ.2.1 4 p = nI m
    · rw [if_pos c1]
      by_cases c2 : lv = 0
      · rw [if_pos c2]; exact Or.inl rfl
      · rw [if_neg c2]
        by_cases c3 : L ≤ ag
        · rw [if_pos c3]; exact Or.inl rfl
        · rw [if_neg c3]; exact Or.inr rfl
    · rw [if_neg c1]; exact Or.inl rfl
  · have l1' : M_lives σ' (nI p) (σ.2.1 44 m) = some lv := l1 σ' hm'
    have a1' : M_ageOf σ' (nI p) (σ.2.1 44 m) = some ag := a1 σ' hm'
    have e : M_isHeir σ' (nI p) (nI m) (σ.2.1 44 m) = if σ.2.1 4 p = nI m then (if lv = 0 then some (0, σ') else (M_ruled σ' 7 (-1) (σ.2.1 44 m) (σ.2.1 44 m)).bind (pq fun r4 r4s => (if r4 ≤ ag then some (0, r4s) else some (1, r4s)))) else some (0, σ') := by
      unfold M_isHeir
      rw [rd_nI h24 (by decide), hm'.2.1 4 (by decide), l1', bind_so, a1', bind_so]
    show ∃ σ1, M_isHeir σ' (nI p) (nI m) (σ.2.1 44 m) = _ ∧ _
    rw [e]
    by_cases c1 : σ.2.1 4 p = nI m
    · rw [if_pos c1, if_pos c1]
      by_cases c2 : lv = 0
      · rw [if_pos c2, if_pos c2]; exact ⟨σ', rfl, hm'⟩
      · rw [if_neg c2, if_neg c2]
        obtain ⟨σ1, q1, q2⟩ := w1 σ' hm'
        have q1' : M_ruled σ' 7 (-1) (σ.2.1 44 m) (σ.2.1 44 m) = some (L, σ1) := q1
        rw [q1', bind_pq]
        by_cases c3 : L ≤ ag
        · rw [if_pos c3, if_pos c3]; exact ⟨σ1, rfl, q2⟩
        · rw [if_neg c3, if_neg c3]; exact ⟨σ1, rfl, q2⟩
    · rw [if_neg c1, if_neg c1]; exact ⟨σ', rfl, hm'⟩
  · intro g
    apply Classical.byContradiction
    intro c1
    rw [if_neg c1] at g
    exact absurd g (by decide)
theorem CV.hIs (h : CV σ τ K np ne bl na hh od) {p m : Nat} (hp : p < np) (hm : m < np) (n4 : σ.2.1 44 m ≠ 10000) : (hI σ m p = 0 ∨ hI σ m p = 1) ∧ QM σ (fun s => M_isHeir s (nI p) (nI m) (σ.2.1 44 m)) (hI σ m p) ∧ (hI σ m p = 1 → σ.2.1 4 p = nI m) := by
  obtain ⟨v, v0, v1, v2, -⟩ := h.heir hp hm n4
  have e : hI σ m p = v := v1.val
  rw [e]
  exact ⟨v0, v1, v2⟩
/-- the class counts the heirs below a number -/
theorem CV.heirs (h : CV σ τ K np ne bl na hh od) {m q : Nat} (hm : m < np) (hq : q ≤ np) (n4 : σ.2.1 44 m ≠ 10000) : QX τ (fun t => Cn_heirsBelow t (nI m) (nI q)) (nI (hN σ m q)) := by
  have h24 : np ≤ 24 := h.1.1.1
  obtain ⟨dk, -, -⟩ := h.dies hm n4
  have hd : -1 ≤ (σ.2.1 44 m).toInt ∧ (σ.2.1 44 m).toInt ≤ 10000 := by unfold DayOk at dk; omega
  obtain ⟨w, L, -, -, w1, w2, -⟩ := h.comes 7 (p0 := -1) (Or.inl rfl) hd
  have key : ∀ (n i fu : Nat) (τ' : XS), i + n = q → n < fu → Rx τ τ' → ∃ τ1, Cn_heirsBelow_L26_r fu τ' (nI m) (nI q) (σ.2.1 44 m) L (nI (hN σ m i)) (nI i) = some (nI (hN σ m q), τ1) ∧ Rx τ τ1 := by
    intro n
    induction n with
    | zero =>
      intro i fu τ' hi hf hx
      obtain ⟨f, rfl, -⟩ := fuel hf
      have hi : i = q := by omega
      subst hi
      exact ⟨τ', by rw [Cn_heirsBelow_L26_r, if_pos (Int32.le_refl _)], hx⟩
    | succ n ih =>
      intro i fu τ' hi hf hx
      obtain ⟨f, rfl, hf2⟩ := fuel hf
      have hin : i < np := by omega
      have nx := ih (i + 1) f τ' (by omega) (by omega) hx
      obtain ⟨v, v0, v1, -, lv, ag, L', l2, a2, w2', ev⟩ := h.heir hin hm n4
      have eL : L' = L := w2'.uniq w2
      subst eL
      have eh : hI σ m i = v := v1.val
      have l2' : Lv_livesOn τ' (nI i) (σ.2.1 44 m) = some lv := l2 τ' hx
      have a2' : Bk_ageOn τ' (nI i) (σ.2.1 44 m) = some ag := a2 τ' hx
      rw [Cn_heirsBelow_L26_r, if_neg (nI_ge (by omega) (by omega)), hx.1 104 (by decide) (by decide) (by decide), h.1.1.2.2.1, if_neg (nI_ge (by omega) (by omega)), rd_nI (by omega) (by decide), hx.2.1 102 (by decide) (by decide), h.1.1.2.2.2.2.2.1, l2', bind_so, a2', bind_so]
      unfold Cn_heirsBelow_J89
      rw [nI_1]
      have no : v = 0 → ∃ τ1, Cn_heirsBelow_L26_r f τ' (nI m) (nI q) (σ.2.1 44 m) L' (nI (hN σ m i)) (nI (i + 1)) = some (nI (hN σ m q), τ1) ∧ Rx τ τ1 := by
        intro e0
        unfold hN at nx ⊢
        rw [fl_neg (by rw [eh, e0]; decide)] at nx
        exact nx
      by_cases c1 : σ.2.1 4 i = nI m
      case neg =>
        rw [if_neg c1]
        rw [if_neg c1] at ev
        exact no ev
      rw [if_pos c1]
      rw [if_pos c1] at ev
      by_cases c2 : lv = 0
      · rw [if_pos c2]
        rw [if_pos c2] at ev
        exact no ev
      rw [if_neg c2]
      rw [if_neg c2] at ev
      by_cases c3 : L' ≤ ag
      · rw [if_pos c3]
        rw [if_pos c3] at ev
        exact no ev
      rw [if_neg c3]
      rw [if_neg c3] at ev
      unfold hN at nx ⊢
      rw [fl_pos (by rw [eh, ev]), List.length_append, List.length_singleton, ← nI_1] at nx
      exact nx
  intro τ' hx
  obtain ⟨τ1, q1, q2⟩ := w2 τ' hx
  have q1' : Cn_comesTo τ' 7 (-1) (σ.2.1 44 m) = some (L, τ1) := q1
  obtain ⟨τ2, k1, k2⟩ := key q 0 100000 τ1 (by omega) (by omega) q2
  refine ⟨τ2, ?_, k2⟩
  show Cn_heirsBelow τ' (nI m) (nI q) = _
  unfold Cn_heirsBelow Cn_heirsBelow_L26
  have ed : τ'.2.1 401 m = σ.2.1 44 m := by
    rw [hx.2.1 401 (by decide) (by decide)]
    exact h.2.1.2.2.2.2.2.2.1 m hm
  rw [rd_nI (by omega) (by decide), ed, q1', bind_pq]
  exact k1
def wdI (σ : MS) (d : Int32) (p : Nat) : Int32 := vM σ (fun s => M_widowOf s (nI p) d)
theorem CK.wdIs (h : CK σ τ K np ne bl na hh od) {p : Nat} (hp : p < np) {d : Int32} (hd : d.toInt ≤ 9999) : QM σ (fun s => M_widowOf s (nI p) d) (wdI σ d p) ∧ UX τ (fun t => Cn_deadHusband t (nI p) d) (wdI σ d p) := by
  obtain ⟨r, -, r1, r2⟩ := h.widow hp hd
  have e : wdI σ d p = r := r1.val
  rw [e]
  exact ⟨r1, r2⟩
theorem CK.leaves (h : CK σ τ K np ne bl na hh od) (m : Nat) {d : Int32} (hd : d.toInt ≤ 9999) : QM σ (fun s => M_leavesWidow s (nI m) d) (lvN (wdI σ d) (nI m) np) := by
  have h24 : np ≤ 24 := h.1.1.1.1
  have key : ∀ (n i fu : Nat) (σ' : MS), i + n = np → n < fu → Rm σ σ' → ∃ σ1, M_leavesWidow_L5_r fu σ' (nI m) d (lvN (wdI σ d) (nI m) i) (nI i) = some (lvN (wdI σ d) (nI m) np, σ1) ∧ Rm σ σ1 := by
    intro n
    induction n with
    | zero =>
      intro i fu σ' hi hf hm
      obtain ⟨f, rfl, -⟩ := fuel hf
      have hi : i = np := by omega
      subst hi
      refine ⟨σ', ?_, hm⟩
      rw [M_leavesWidow_L5_r, hm.1 1 (by decide) (by decide) (by decide), h.1.1.1.2.1, if_pos (Int32.le_refl _)]
      rcases lvN01 (wdI σ d) (nI m) i with e | e
      · rw [e, bz_0]
      · rw [e, bz_1]
    | succ n ih =>
      intro i fu σ' hi hf hm
      obtain ⟨f, rfl, hf2⟩ := fuel hf
      have nx := fun σ' hm => ih (i + 1) f σ' (by omega) (by omega) hm
      rw [M_leavesWidow_L5_r, hm.1 1 (by decide) (by decide) (by decide), h.1.1.1.2.1, if_neg (nI_ge (by omega) (by omega))]
      simp only [M_leavesWidow_J29, M_leavesWidow_J34, nI_1]
      by_cases c : lvN (wdI σ d) (nI m) i = 0
      · rw [if_pos c]
        obtain ⟨σ1, q1, q2⟩ := (h.wdIs (p := i) (by omega) hd).1 σ' hm
        have q1' : M_widowOf σ' (nI i) d = some (wdI σ d i, σ1) := q1
        rw [q1', bind_pq]
        have := nx σ1 q2
        rw [lvN, if_pos c] at this
        by_cases c2 : wdI σ d i = nI m
        · rw [if_pos c2]
          rw [if_pos c2] at this
          exact this
        · rw [if_neg c2]
          rw [if_neg c2] at this
          exact this
      · rw [if_neg c]
        have := nx σ' hm
        rw [lvN, if_neg c] at this
        exact this
  intro σ' hm
  obtain ⟨σ1, k1, k2⟩ := key np 0 100000 σ' (by omega) (by omega) hm
  exact ⟨σ1, k1, k2⟩
/-- whether a man leaves a sum in a year, and what the class finds of it -/
theorem CK.leftBy (h : CK σ τ K np ne bl na hh od) {m : Nat} (hm : m < np) {y : Int32} : (bI σ m y = 0 ∨ bI σ m y = 1) ∧ QM σ (fun s => isM s (nI m) y) (bI σ m y) ∧ (bI σ m y = 1 → σ.2.1 2 m = 0 ∧ σ.2.1 44 m ≠ 10000 ∧ σ.2.1 44 m / 100 = y) ∧ (σ.2.1 2 m = 0 → σ.2.1 44 m ≠ 10000 → σ.2.1 44 m / 100 = y → QM σ (fun s => M_ruled s 2 (nI m) (σ.2.1 44 m - 1) (σ.2.1 44 m - 1)) (wI σ m) ∧ InR (wI σ m) 0 9999 ∧ QX τ (fun t => Cn_sumLeft t (nI m)) (if bI σ m y = 0 then 0 else (wI σ m).toInt64)) := by
  have h24 : np ≤ 24 := h.1.1.1.1
  have hm24 : m < 24 := by omega
  have e44 : ∀ σ', Rm σ σ' → σ'.2.1 44 = σ.2.1 44 := fun σ' k => k.2.1 44 (by decide)
  have e2 : ∀ σ', Rm σ σ' → σ'.2.1 2 = σ.2.1 2 := fun σ' k => k.2.1 2 (by decide)
  have none0 : (∀ σ', Rm σ σ' → isM σ' (nI m) y = some (0, σ')) → bI σ m y = 0 ∧ QM σ (fun s => isM s (nI m) y) 0 := by
    intro g
    have s : QM σ (fun s => isM s (nI m) y) 0 := fun σ' hm' => ⟨σ', g σ' hm', hm'⟩
    exact ⟨s.val, s⟩
  by_cases c1 : σ.2.1 2 m = 0
  case neg =>
    obtain ⟨a1, a2⟩ := none0 fun σ' k => by
      unfold isM
      rw [rd_nI hm24 (by decide), rd_nI hm24 (by decide), e2 σ' k, if_neg c1]
    rw [a1]
    exact ⟨Or.inl rfl, a2, fun g => absurd g (by decide), fun g => absurd g c1⟩
  by_cases c2 : σ.2.1 44 m = 10000
  · obtain ⟨a1, a2⟩ := none0 fun σ' k => by
      unfold isM
      rw [rd_nI hm24 (by decide), rd_nI hm24 (by decide), e2 σ' k, if_pos c1, e44 σ' k, if_pos c2]
    rw [a1]
    exact ⟨Or.inl rfl, a2, fun g => absurd g (by decide), fun _ g => absurd c2 g⟩
  by_cases c3 : σ.2.1 44 m / 100 = y
  case neg =>
    obtain ⟨a1, a2⟩ := none0 fun σ' k => by
      unfold isM
      rw [rd_nI hm24 (by decide), rd_nI hm24 (by decide), e2 σ' k, if_pos c1, e44 σ' k, if_neg c2, if_neg c3]
    rw [a1]
    exact ⟨Or.inl rfl, a2, fun g => absurd g (by decide), fun _ _ g => absurd g c3⟩
  obtain ⟨dk, d1, d2⟩ := h.1.dies hm c2
  have hd : (σ.2.1 44 m).toInt ≤ 9999 := by unfold DayOk at dk; omega
  obtain ⟨k0, k1⟩ := h.2 m hm c2
  have sl := h.leaves m hd
  have lv01 := lvN01 (wdI σ (σ.2.1 44 m)) (nI m) np
  obtain ⟨w, u, w0, -, w1, w2, -, w3, -⟩ := h.1.comes 2 (p0 := nI m) (d := σ.2.1 44 m - 1) (Or.inr ⟨m, hm, rfl⟩) ⟨d1, d2⟩
  have eu : u = w := w3 (by unfold Stq; decide)
  subst eu
  have ew : wI σ m = u := w1.val
  -- the flag
  have sB : QM σ (fun s => isM s (nI m) y) (if τ.2.1 206 m = 0 then 0 else if lvN (wdI σ (σ.2.1 44 m)) (nI m) np = 0 then 1 else 0) := by
    intro σ' hm'
    obtain ⟨σ1, q1, q2⟩ := k1 σ' hm'
    have q1' : M_counted σ' (nI m) (σ.2.1 44 m - 1) = some (τ.2.1 206 m, σ1) := q1
    obtain ⟨σ2, z1, z2⟩ := sl σ1 q2
    have z1' : M_leavesWidow σ1 (nI m) (σ.2.1 44 m) = some (lvN (wdI σ (σ.2.1 44 m)) (nI m) np, σ2) := z1
    have e : isM σ' (nI m) y = if τ.2.1 206 m = 0 then some (0, σ1) else if lvN (wdI σ (σ.2.1 44 m)) (nI m) np = 0 then some (1, σ2) else some (0, σ2) := by
      unfold isM
      rw [rd_nI hm24 (by decide), rd_nI hm24 (by decide), e2 σ' hm', if_pos c1, e44 σ' hm', if_neg c2, if_pos c3, q1', bind_pq, z1', bind_pq]
    show ∃ σ1, isM σ' (nI m) y = _ ∧ _
    rw [e]
    by_cases c4 : τ.2.1 206 m = 0
    · rw [if_pos c4, if_pos c4]; exact ⟨σ1, rfl, q2⟩
    · rw [if_neg c4, if_neg c4]
      by_cases c5 : lvN (wdI σ (σ.2.1 44 m)) (nI m) np = 0
      · rw [if_pos c5, if_pos c5]; exact ⟨σ2, rfl, z2⟩
      · rw [if_neg c5, if_neg c5]; exact ⟨σ2, rfl, z2⟩
  have eB : bI σ m y = (if τ.2.1 206 m = 0 then 0 else if lvN (wdI σ (σ.2.1 44 m)) (nI m) np = 0 then 1 else 0) := sB.val
  rw [← eB] at sB
  -- the class's sum
  have key : ∀ (n i fu : Nat) (τ' : XS), i + n = np → n < fu → Rx τ τ' → lvN (wdI σ (σ.2.1 44 m)) (nI m) i = 0 → ∃ τ1, Cn_sumLeft_L23_r fu τ' (nI m) (σ.2.1 44 m) (nI i) = some (if lvN (wdI σ (σ.2.1 44 m)) (nI m) np = 0 then u.toInt64 else 0, τ1) ∧ Rx τ τ1 := by
    intro n
    induction n with
    | zero =>
      intro i fu τ' hi hf hx hl
      obtain ⟨f, rfl, -⟩ := fuel hf
      have hi : i = np := by omega
      subst hi
      obtain ⟨τ1, q1, q2⟩ := w2 τ' hx
      have q1' : Cn_comesTo τ' 2 (nI m) (σ.2.1 44 m - 1) = some (u, τ1) := q1
      refine ⟨τ1, ?_, q2⟩
      rw [Cn_sumLeft_L23_r, hx.1 104 (by decide) (by decide) (by decide), h.1.1.1.2.2.1, if_pos (Int32.le_refl _), q1', bind_pq, if_pos hl]
    | succ n ih =>
      intro i fu τ' hi hf hx hl
      obtain ⟨f, rfl, hf2⟩ := fuel hf
      have dh : Cn_deadHusband τ' (nI i) (σ.2.1 44 m) = some (wdI σ (σ.2.1 44 m) i) := (h.wdIs (p := i) (by omega) hd).2 τ' hx
      rw [Cn_sumLeft_L23_r, hx.1 104 (by decide) (by decide) (by decide), h.1.1.1.2.2.1, if_neg (nI_ge (by omega) (by omega)), dh, bind_so]
      have st : lvN (wdI σ (σ.2.1 44 m)) (nI m) (i + 1) = if wdI σ (σ.2.1 44 m) i = nI m then 1 else 0 := by rw [lvN, if_pos hl]
      by_cases c6 : wdI σ (σ.2.1 44 m) i = nI m
      · rw [if_pos c6]
        rw [if_pos c6] at st
        have := lvN_mono (W := wdI σ (σ.2.1 44 m)) (x := nI m) (i := i + 1) (by rw [st]; decide) (np - (i + 1))
        rw [show i + 1 + (np - (i + 1)) = np by omega] at this
        rw [if_neg this]
        exact ⟨τ', rfl, hx⟩
      · rw [if_neg c6, nI_1]
        rw [if_neg c6] at st
        exact ih (i + 1) f τ' (by omega) (by omega) hx st
  refine ⟨?_, sB, fun _ => ⟨c1, c2, c3⟩, fun _ _ _ => ⟨by rw [ew]; exact w1, by rw [ew]; exact w0, fun τ' hx => ?_⟩⟩
  · rw [eB]
    by_cases c4 : τ.2.1 206 m = 0
    · rw [if_pos c4]; exact Or.inl rfl
    · rw [if_neg c4]
      by_cases c5 : lvN (wdI σ (σ.2.1 44 m)) (nI m) np = 0
      · rw [if_pos c5]; exact Or.inr rfl
      · rw [if_neg c5]; exact Or.inl rfl
  · show ∃ τ1, Cn_sumLeft τ' (nI m) = _ ∧ _
    have ed : τ'.2.1 401 m = σ.2.1 44 m := by
      rw [hx.2.1 401 (by decide) (by decide)]
      exact h.1.2.1.2.2.2.2.2.2.1 m hm
    unfold Cn_sumLeft Cn_sumLeft_L23
    rw [rd_nI hm24 (by decide), rd_nI hm24 (by decide), hx.2.1 206 (by decide) (by decide), ed, ew, eB]
    by_cases c4 : τ.2.1 206 m = 0
    · rw [if_pos c4, if_pos c4, if_pos rfl]
      exact ⟨τ', rfl, hx⟩
    · rw [if_neg c4, if_neg c4]
      obtain ⟨τ1, q1, q2⟩ := key np 0 100000 τ' (by omega) (by omega) hx rfl
      refine ⟨τ1, ?_, q2⟩
      have q1' : Cn_sumLeft_L23_r 100000 τ' (nI m) (σ.2.1 44 m) 0 = _ := q1
      rw [q1']
      by_cases c5 : lvN (wdI σ (σ.2.1 44 m)) (nI m) np = 0
      · rw [if_pos c5, if_pos c5, if_neg n10]
      · rw [if_neg c5, if_neg c5, if_pos rfl]
end SUMS
