/-! what one gets of sums, what all get -/
section SUMOF
variable {σ σ' : MS} {τ τ' : XS} {K np ne na : Nat} {bl od : List Nat} {hh : Nat → Nat}
theorem M_sumOf_step (σ : MS) (f : Nat) (a1 y : Int32) (A : Int64) {m : Nat} (hm : m < 24) {np : Nat} (h1 : σ.1 1 = nI np) (hlt : m < np) (hnp : np ≤ 24) : M_sumOf_L5_r (f + 1) σ a1 y A (nI m) = (isM σ (nI m) y).bind (pq fun b s => M_sumOf_L90 (M_sumOf_L5_r f) 100000 s a1 y A (nI m) (σ.2.1 44 m) b 0 0 0) := by
  rw [M_sumOf_L5_r, h1, if_neg (nI_ge hlt (by omega)), rd_nI hm (by decide), rd_nI hm (by decide)]
  unfold isM M_sumOf_J78 M_sumOf_J79
  rw [rd_nI hm (by decide), rd_nI hm (by decide)]
  by_cases c1 : σ.2.1 2 m = 0
  case neg => rw [if_neg c1, if_neg c1, bind_pq]
  rw [if_pos c1, if_pos c1]
  by_cases c2 : σ.2.1 44 m = 10000
  · rw [if_pos c2, if_pos c2, bind_pq]
  rw [if_neg c2, if_neg c2]
  unfold M_yearOf
  rw [bind_so]
  by_cases c3 : σ.2.1 44 m / 100 = y
  case neg => rw [if_neg c3, if_neg c3, bind_pq]
  rw [if_pos c3, if_pos c3]
  cases e : M_counted σ (nI m) (σ.2.1 44 m - 1) with
  | none => rfl
  | some q =>
    obtain ⟨r7, s7⟩ := q
    rw [bind_pq, bind_pq]
    by_cases c4 : r7 = 0
    · rw [if_pos c4, if_pos c4, bind_pq]
    rw [if_neg c4, if_neg c4]
    cases e2 : M_leavesWidow s7 (nI m) (σ.2.1 44 m) with
    | none => rfl
    | some q2 =>
      obtain ⟨r8, s8⟩ := q2
      rw [bind_pq, bind_pq]
      by_cases c5 : r8 = 0
      · rw [if_pos c5, if_pos c5, bind_pq]
      · rw [if_neg c5, if_neg c5, bind_pq]
/-- what a man's sum adds, for all (a1 = -1) or for one -/
noncomputable def cGen (σ : MS) (np : Nat) (y a1 : Int32) (q m : Nat) : Int64 := if a1 = -1 then cAll σ np y m else cOne σ np y q m
theorem M_sumOf_gen (h : CK σ τ K np ne bl na hh od) {a1 : Int32} {q : Nat} (ha : a1 = -1 ∨ (q < np ∧ a1 = nI q)) (y : Int32) : QM σ (fun s => M_sumOf s a1 y) (sC (cGen σ np y a1 q) np) := by
  have h24 : np ≤ 24 := h.1.1.1.1
  have key : ∀ (n i fu : Nat) (σ' : MS), i + n = np → n < fu → Rm σ σ' → ∃ σ1, M_sumOf_L5_r fu σ' a1 y (sC (cGen σ np y a1 q) i) (nI i) = some (sC (cGen σ np y a1 q) np, σ1) ∧ Rm σ σ1 := by
    intro n
    induction n with
    | zero =>
      intro i fu σ' hi hf hm
      obtain ⟨f, rfl, -⟩ := fuel hf
      have hi : i = np := by omega
      subst hi
      exact ⟨σ', by rw [M_sumOf_L5_r, hm.1 1 (by decide) (by decide) (by decide), h.1.1.1.2.1, if_pos (Int32.le_refl _)], hm⟩
    | succ n ih =>
      intro i fu σ' hi hf hm
      obtain ⟨f, rfl, hf2⟩ := fuel hf
      have hin : i < np := by omega
      have nx := fun σ' hm => ih (i + 1) f σ' (by omega) (by omega) hm
      obtain ⟨b0, b1, b2, b3⟩ := h.leftBy hin (y := y)
      obtain ⟨σ1, q1, q2⟩ := b1 σ' hm
      have q1' : isM σ' (nI i) y = some (bI σ i y, σ1) := q1
      rw [M_sumOf_step σ' f a1 y _ (show i < 24 by omega) ((hm.1 1 (by decide) (by decide) (by decide)).trans h.1.1.1.2.1) hin h24, q1', bind_pq, hm.2.1 44 (by decide)]
      have skip : ∀ σ', Rm σ σ' → cGen σ np y a1 q i = 0 → ∃ σ1, M_sumOf_L5_r f σ' a1 y (sC (cGen σ np y a1 q) i) (nI (i + 1)) = some (sC (cGen σ np y a1 q) np, σ1) ∧ Rm σ σ1 := by
        intro σ' hm e
        have := nx σ' hm
        rw [sC, e, Int64.add_zero] at this
        exact this
      unfold M_sumOf_L90
      rcases b0 with b0 | b0
      · -- nothing is left
        rw [b0, show (100000 : Nat) = 99999 + 1 from rfl, M_sumOf_L90_r]
        unfold M_sumOf_J158 M_sumOf_J249
        have e0 : cGen σ np y a1 q i = 0 := by
          unfold cGen cAll cOne
          rw [b0, if_pos rfl, if_pos rfl]
          split <;> rfl
        have := skip σ1 q2 e0
        rw [if_pos (Int32.le_refl (0 : Int32)), if_pos rfl, nI_1]
        by_cases c : σ1.1 1 ≤ 0
        · rw [if_pos c]; exact this
        · rw [if_neg c]; exact this
      obtain ⟨m1, m2, m3⟩ := b2 b0
      obtain ⟨w1, w0, -⟩ := b3 m1 m2 m3
      -- the heirs are counted
      have Ah : ∀ p, p ≤ np → (fl (fun p' => hI σ i p' = 1 ∧ ¬ a1 ≤ nI p') p).length = (fl (fun p' => hI σ i p' = 1 ∧ ¬ a1 ≤ nI p') p).length := fun _ _ => rfl
      have fin : ∀ σ', Rm σ σ' → ∃ σ1, M_sumOf_J158 (M_sumOf_L5_r f) σ' a1 y (sC (cGen σ np y a1 q) i) (nI i) (σ.2.1 44 i) (nI (hN σ i np)) (nI (fl (fun p' => hI σ i p' = 1 ∧ ¬ a1 ≤ nI p') np).length) = some (sC (cGen σ np y a1 q) np, σ1) ∧ Rm σ σ1 := by
        intro σ' hm
        have hl : hN σ i np ≤ np := fl_len
        unfold M_sumOf_J158 M_sumOf_J249
        rw [nI_1]
        by_cases c0 : hN σ i np = 0
        · rw [c0, if_pos (show nI 0 ≤ 0 by decide)]
          refine skip σ' hm ?_
          unfold cGen cAll cOne
          rw [b0, if_neg n10, if_neg n10, if_pos c0]
          rcases ha with ha | ⟨hq, ha⟩
          · rw [if_pos ha]
          · rw [if_neg (by rw [ha]; exact nI_ne_m1 (by omega)), if_pos]
            rcases (h.1.hIs hq hin m2).1 with g | g
            · exact g
            · exfalso
              have : q ∈ fl (fun p => hI σ i p = 1) np := fl_mem.mpr ⟨hq, g⟩
              unfold hN at c0
              rw [List.length_eq_zero_iff] at c0
              rw [c0] at this
              exact absurd this List.not_mem_nil
        rw [if_neg (by rw [show (0 : Int32) = nI 0 from rfl, nI_leI (by omega) (by omega)]; omega)]
        obtain ⟨σ2, z1, z2⟩ := w1 σ' hm
        have z1' : M_ruled σ' 2 (nI i) (σ.2.1 44 i - 1) (σ.2.1 44 i - 1) = some (wI σ i, σ2) := z1
        rw [z1', bind_pq]
        unfold M_sumOf_J201 M_sumOf_J202 M_sumOf_J241 M_sumOf_J247 M_sumOf_J249
        rw [nI_1]
        rcases ha with ha | ⟨hq, ha⟩
        · rw [if_pos ha, if_pos ha]
          have := nx σ2 z2
          rw [sC] at this
          unfold cGen cAll at this
          rw [if_pos ha, b0, if_neg n10, if_neg c0] at this
          unfold cGen cAll
          exact this
        · have na1 : ¬ a1 = -1 := by rw [ha]; exact nI_ne_m1 (by omega)
          obtain ⟨g0, g1, -⟩ := h.1.hIs hq hin m2
          obtain ⟨σ3, y1, y2⟩ := g1 σ2 z2
          have y1' : M_isHeir σ2 a1 (nI i) (σ.2.1 44 i) = some (hI σ i q, σ3) := by rw [ha]; exact y1
          rw [if_neg na1, y1', bind_pq]
          have := nx σ3 y2
          rw [sC] at this
          have e1 : cGen σ np y a1 q i = if hI σ i q = 0 then 0 else (wI σ i / nI (hN σ i np) + (if wI σ i - wI σ i / nI (hN σ i np) * nI (hN σ i np) ≤ nI (hN σ i q) then 0 else 1)).toInt64 := by
            unfold cGen cOne
            rw [if_neg na1, b0, if_neg n10]
          rw [e1] at this
          by_cases c1 : hI σ i q = 0
          · rw [if_pos c1, if_neg na1, if_pos rfl]
            rw [if_pos c1] at this
            exact this
          · rw [if_neg c1, if_neg na1, if_neg n10]
            rw [if_neg c1] at this
            have eA : (fl (fun p' => hI σ i p' = 1 ∧ ¬ a1 ≤ nI p') np).length = hN σ i q := by
              unfold hN
              refine (perm_of fl_nodup fl_nodup fun p => ?_).length_eq
              rw [fl_mem, fl_mem, ha]
              constructor
              · rintro ⟨g1, g2, g3⟩
                rw [nI_leI (by omega) (by omega)] at g3
                exact ⟨by omega, g2⟩
              · rintro ⟨g1, g2⟩
                refine ⟨by omega, g2, ?_⟩
                rw [nI_leI (by omega) (by omega)]
                omega
            have nzH : ¬ nI (hN σ i np) = 0 := by
              rw [show (0 : Int32) = nI 0 from rfl, nI_eq (by omega) (by omega)]
              exact c0
            unfold nz
            rw [if_neg nzH, if_neg nzH, eA]
            by_cases c2 : wI σ i - wI σ i / nI (hN σ i np) * nI (hN σ i np) ≤ nI (hN σ i q)
            · rw [if_pos c2]
              rw [if_pos c2] at this
              exact this
            · rw [if_neg c2]
              rw [if_neg c2] at this
              exact this
      have loop : ∀ (k p fu : Nat) (σ' : MS), p + k = np → k < fu → Rm σ σ' → ∃ σ1, M_sumOf_L90_r (M_sumOf_L5_r f) fu σ' a1 y (sC (cGen σ np y a1 q) i) (nI i) (σ.2.1 44 i) 1 (nI (hN σ i p)) (nI (fl (fun p' => hI σ i p' = 1 ∧ ¬ a1 ≤ nI p') p).length) (nI p) = some (sC (cGen σ np y a1 q) np, σ1) ∧ Rm σ σ1 := by
        intro k
        induction k with
        | zero =>
          intro p fu σ' hp hf hm
          obtain ⟨f', rfl, -⟩ := fuel hf
          have hp : p = np := by omega
          subst hp
          rw [M_sumOf_L90_r, hm.1 1 (by decide) (by decide) (by decide), h.1.1.1.2.1, if_pos (Int32.le_refl _)]
          exact fin σ' hm
        | succ k ihk =>
          intro p fu σ' hp hf hm
          obtain ⟨f', rfl, hf2'⟩ := fuel hf
          have hpn : p < np := by omega
          obtain ⟨g0, g1, -⟩ := h.1.hIs hpn hin m2
          obtain ⟨σ2, y1, y2⟩ := g1 σ' hm
          have y1' : M_isHeir σ' (nI p) (nI i) (σ.2.1 44 i) = some (hI σ i p, σ2) := y1
          have nxk := ihk (p + 1) f' σ2 (by omega) (by omega) y2
          rw [M_sumOf_L90_r, hm.1 1 (by decide) (by decide) (by decide), h.1.1.1.2.1, if_neg (nI_ge (by omega) (by omega)), if_neg n10, y1', bind_pq]
          unfold M_sumOf_J128 M_sumOf_J148 M_sumOf_J149
          simp only [nI_1, Int32.add_zero]
          unfold hN at nxk ⊢
          rcases g0 with g0 | g0
          · rw [fl_neg (S := fun p => hI σ i p = 1) (by rw [g0]; decide), fl_neg (S := fun p' => hI σ i p' = 1 ∧ ¬ a1 ≤ nI p') (fun g => by rw [g0] at g; exact absurd g.1 (by decide))] at nxk
            rw [g0, if_pos rfl, if_pos rfl]
            exact nxk
          · rw [fl_pos (S := fun p => hI σ i p = 1) g0, List.length_append, List.length_singleton] at nxk
            rw [g0, if_neg n10, if_neg n10]
            by_cases c : a1 ≤ nI p
            · rw [fl_neg (S := fun p' => hI σ i p' = 1 ∧ ¬ a1 ≤ nI p') (fun g => g.2 c)] at nxk
              rw [if_pos c]
              exact nxk
            · rw [fl_pos (S := fun p' => hI σ i p' = 1 ∧ ¬ a1 ≤ nI p') ⟨g0, c⟩, List.length_append, List.length_singleton] at nxk
              rw [if_neg c]
              exact nxk
      rw [b0]
      obtain ⟨σ3, k1, k2⟩ := loop np 0 100000 σ1 (by omega) (by omega) q2
      exact ⟨σ3, k1, k2⟩
  intro σ' hm
  obtain ⟨σ1, k1, k2⟩ := key np 0 100000 σ' (by omega) (by omega) hm
  exact ⟨σ1, k1, k2⟩
theorem CK.sumAll (h : CK σ τ K np ne bl na hh od) (y : Int32) : QM σ (fun s => M_sumOf s (-1) y) (sC (cAll σ np y) np) := by
  have := M_sumOf_gen h (a1 := -1) (q := 0) (Or.inl rfl) y
  rw [sC_congr (C' := cAll σ np y) np fun m _ => by unfold cGen; rw [if_pos rfl]] at this
  exact this
theorem year_ne {Y : Nat} (hY : Y < 100) : ¬ (10000 : Int32) / 100 = nI Y := by
  rw [show (10000 : Int32) / 100 = nI 100 from rfl, nI_eq (by omega) (by omega)]
  omega
theorem CK.sumOne (h : CK σ τ K np ne bl na hh od) {q : Nat} (hq : q < np) {Y : Nat} (hY : Y < 100) : QM σ (fun s => M_sumOf s (nI q) (nI Y)) (sC (cOne σ np (nI Y) q) np) ∧ QX τ (fun t => Cn_sumOf t (nI q) (nI Y)) (sC (cOne σ np (nI Y) q) np) := by
  have h24 : np ≤ 24 := h.1.1.1.1
  refine ⟨?_, ?_⟩
  · have := M_sumOf_gen h (a1 := nI q) (q := q) (Or.inr ⟨hq, rfl⟩) (nI Y)
    rw [sC_congr (C' := cOne σ np (nI Y) q) np fun m _ => by unfold cGen; rw [if_neg (nI_ne_m1 (by omega))]] at this
    exact this
  -- only the father's sum counts
  have zero : ∀ m, m < np → (σ.2.1 4 q ≠ nI m ∨ σ.2.1 44 m = 10000 ∨ ¬ σ.2.1 44 m / 100 = nI Y ∨ hI σ m q = 0 ∨ bI σ m (nI Y) = 0) → cOne σ np (nI Y) q m = 0 := by
    intro m hm hz
    obtain ⟨b0, b1, b2, b3⟩ := h.leftBy hm (y := nI Y)
    unfold cOne
    rcases b0 with b0 | b0
    · rw [if_pos b0]
    · obtain ⟨m1, m2, m3⟩ := b2 b0
      obtain ⟨g0, -, g1⟩ := h.1.hIs hq hm m2
      rw [b0, if_neg n10, if_pos]
      rcases hz with hz | hz | hz | hz | hz
      · rcases g0 with g | g
        · exact g
        · exact absurd (g1 g) hz
      · exact absurd hz m2
      · exact absurd m3 hz
      · exact hz
      · rw [b0] at hz; exact absurd hz (by decide)
  intro τ' hx
  show ∃ τ1, Cn_sumOf τ' (nI q) (nI Y) = _ ∧ _
  have e102 : τ'.2.1 102 = σ.2.1 4 := (hx.2.1 102 (by decide) (by decide)).trans h.1.1.1.2.2.2.2.2.1
  unfold Cn_sumOf
  rw [rd_nI (by omega) (by decide), e102]
  rcases (h.1.1.1.2.2.2.2.2.2.2 q hq).2.2.1 with g | ⟨f, hf, g, sf, -⟩
  · rw [g, if_pos (by decide)]
    refine ⟨τ', ?_, hx⟩
    rw [sC_zero np fun m hm => zero m hm (Or.inl (by rw [g]; exact fun e => nI_ne_m1 (by omega) e.symm))]
  have ed : τ'.2.1 401 f = σ.2.1 44 f := by
    rw [hx.2.1 401 (by decide) (by decide)]
    exact h.1.2.1.2.2.2.2.2.2.1 f hf
  rw [g, if_neg (nI_not_lt0 (by omega)), rd_nI (by omega) (by decide), ed]
  have single : sC (cOne σ np (nI Y) q) np = cOne σ np (nI Y) q f := sC_one np hf fun m hm hne => zero m hm (Or.inl (by rw [g]; exact fun e => hne ((nI_eq (by omega) (by omega)).mp e).symm))
  rw [single]
  by_cases c3 : σ.2.1 44 f / 100 = nI Y
  case neg =>
    rw [if_neg c3]
    exact ⟨τ', by rw [zero f hf (Or.inr (Or.inr (Or.inl c3)))], hx⟩
  rw [if_pos c3]
  have n4 : σ.2.1 44 f ≠ 10000 := fun e => by rw [e] at c3; exact year_ne hY c3
  obtain ⟨τ1, x1, x2⟩ := h.1.heirs hf (q := q) (by omega) n4 τ' hx
  obtain ⟨τ2, y1, y2⟩ := h.1.heirs hf (q := q + 1) (by omega) n4 τ1 x2
  obtain ⟨τ3, z1, z2⟩ := h.1.heirs hf (q := np) (Nat.le_refl _) n4 τ2 y2
  have x1' : Cn_heirsBelow τ' (nI f) (nI q) = some (nI (hN σ f q), τ1) := x1
  have y1' : Cn_heirsBelow τ1 (nI f) (nI (q + 1)) = some (nI (hN σ f (q + 1)), τ2) := y1
  have z1' : Cn_heirsBelow τ2 (nI f) (nI np) = some (nI (hN σ f np), τ3) := z1
  obtain ⟨b0, b1, b2, b3⟩ := h.leftBy hf (y := nI Y)
  obtain ⟨w1, w0, w2⟩ := b3 sf n4 c3
  obtain ⟨τ4, v1, v2⟩ := w2 τ3 z2
  have v1' : Cn_sumLeft τ3 (nI f) = some ((if bI σ f (nI Y) = 0 then 0 else (wI σ f).toInt64), τ4) := v1
  have lq : hN σ f q ≤ q := fl_len
  have ln : hN σ f np ≤ np := fl_len
  rw [x1', bind_pq, nI_1, y1', bind_pq, y2.1 104 (by decide) (by decide) (by decide), h.1.1.1.2.2.1, z1', bind_pq, v1', bind_pq]
  obtain ⟨g0, -, -⟩ := h.1.hIs hq hf n4
  rcases g0 with g0 | g0
  · have e1 : hN σ f (q + 1) = hN σ f q := by unfold hN; rw [fl_neg (by rw [g0]; decide)]
    rw [e1, if_pos rfl]
    exact ⟨τ2, by rw [zero f hf (Or.inr (Or.inr (Or.inr (Or.inl g0))))], y2⟩
  have e1 : hN σ f (q + 1) = hN σ f q + 1 := by unfold hN; rw [fl_pos g0, List.length_append, List.length_singleton]
  have e2 : 1 ≤ hN σ f np := by
    have : q ∈ fl (fun p => hI σ f p = 1) np := fl_mem.mpr ⟨hq, g0⟩
    unfold hN
    exact List.length_pos_of_mem this
  rw [e1, if_neg (by rw [nI_eq (by omega) (by omega)]; omega), if_pos (by rw [show (1 : Int32) = nI 1 from rfl, nI_leI (by omega) (by omega)]; exact e2)]
  have nzH : ¬ lN (hN σ f np) = 0 := by
    rw [show (0 : Int64) = lN 0 from rfl, lN_eq (by omega) (by omega)]
    omega
  unfold nzl Cn_sumOf_J108
  rw [nI_l (show hN σ f np < 2 ^ 31 by omega), nI_l (show hN σ f q < 2 ^ 31 by omega), if_neg nzH, if_neg nzH]
  rcases b0 with b0 | b0
  · rw [if_pos b0, show (0 : Int64) = lN 0 from rfl, pk_lRem (by decide) (by omega) (by omega), pk_lDiv (by decide) (by omega) (by omega), Nat.zero_mod, Nat.zero_div]
    refine ⟨τ4, ?_, v2⟩
    rw [if_pos ((lg_cmp_ge _ _).mpr ((lN_le (by omega) (by omega)).mpr (Nat.zero_le _))), zero f hf (Or.inr (Or.inr (Or.inr (Or.inr b0))))]
    rfl
  · rw [b0, if_neg n10]
    obtain ⟨W, hW, eW⟩ := inRn (k := wI σ f) (n := 9999) w0 (by decide)
    have ec : cOne σ np (nI Y) q f = (nI (W / hN σ f np) + (if nI (W % hN σ f np) ≤ nI (hN σ f q) then 0 else 1)).toInt64 := by
      unfold cOne
      rw [b0, if_neg n10, g0, if_neg n10, eW, pk_rem (by omega) (by omega) (by omega), pk_div (by omega) (by omega) (by omega)]
    have hWd : W / hN σ f np ≤ W := Nat.div_le_self _ _
    have hWm : W % hN σ f np ≤ W := Nat.mod_le _ _
    rw [eW, nI_l (show W < 2 ^ 31 by omega), pk_lRem (by omega) (by omega) (by omega), pk_lDiv (by omega) (by omega) (by omega), ec]
    refine ⟨τ4, ?_, v2⟩
    by_cases c5 : W % hN σ f np ≤ hN σ f q
    · rw [if_pos ((lg_cmp_ge _ _).mpr ((lN_le (by omega) (by omega)).mpr c5)), if_pos ((nI_leI (by omega) (by omega)).mpr c5), Int32.add_zero, nI_l (by omega), show (0 : Int32).toInt64 = 0 from rfl, Int64.add_zero]
    · rw [if_neg (fun e => c5 ((lN_le (by omega) (by omega)).mp ((lg_cmp_ge _ _).mp e))), if_neg (fun e => c5 ((nI_leI (by omega) (by omega)).mp e)), nI_1, nI_l (by omega), show (1 : Int32).toInt64 = 1 from rfl, lN_1]
end SUMOF
theorem st25 : St25 (InvA ActI) := by
  intro σ τ xs i h
  have same : InvA ActI σ τ := h
  obtain ⟨np, ne, bl, hP, hB, hM, ha⟩ := h
  have hP1 := hP.1
  generalize xs (i + 1) = p0
  generalize xs (i + 2) = p1
  generalize xs (i + 3) = p2
  unfold W_sum M_sum
  rw [Bk_isPerson_eq hP.2.2.1, M_isPerson_eq hP.1 hP.2.1, Bk_isReach_eq hB.2.2.1, M_isBy_eq hB.2.1, W_isYear_eq, M_isYear_eq]
  simp only [bind_so, b01_if]
  by_cases c : 0 ≤ p0 ∧ p0 < nI np
  case neg =>
    rw [if_neg c, if_neg c]
    exact ⟨_, _, _, rfl, rfl, same⟩
  rw [if_pos c, if_pos c]
  obtain ⟨p, hp, rfl⟩ := inN c (by omega)
  by_cases cy : 0 ≤ p1 ∧ p1 ≤ 99
  case neg =>
    rw [if_neg cy, if_neg cy]
    exact ⟨_, _, _, rfl, rfl, same⟩
  rw [if_pos cy, if_pos cy]
  obtain ⟨Y, hY, rfl⟩ := inRn (k := p1) (n := 99) ⟨i32_le.mp cy.1, i32_le.mp cy.2⟩ (by decide)
  by_cases c1 : -1 ≤ p2 ∧ p2 ≤ nI ne
  case neg =>
    rw [if_neg c1, if_neg c1]
    exact ⟨_, _, _, rfl, rfl, same⟩
  rw [if_pos c1, if_pos c1]
  obtain ⟨na, hh, od, cb⟩ := InvA.cb hP hB hM ha
  obtain ⟨K, σl, τl, τ1, q1, q2, ck, hx, sM, sX⟩ := cb.look c1
  obtain ⟨r1, r2⟩ := ck.sumOne hp (Y := Y) (by omega)
  obtain ⟨σ2, y1, y2⟩ := r1 σl (Rm.refl σl)
  have y1' : M_sumOf σl (nI p) (nI Y) = some (_, σ2) := y1
  obtain ⟨τ2, z1, z2⟩ := r2 τ1 hx
  have z1' : Cn_sumOf τ1 (nI p) (nI Y) = some (_, τ2) := z1
  rw [q1, q2, bind_pq, bind_pq, y1', z1', bind_pq, bind_pq]
  exact ⟨_, _, _, rfl, rfl, same.same ActI_stb (sM.trans y2.same) (sX.trans z2.same)⟩
