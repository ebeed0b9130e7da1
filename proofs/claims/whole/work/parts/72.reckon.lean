/-! the class reckons what the code says -/
theorem m2_len {r : Nat} : nI (r + 1 + 1) + (-2) = nI r := by
  rw [show nI (r + 1 + 1) + (-2) = nI (r + 1 + 1) - nI 2 from (Int32.sub_eq_add_neg _ _).symm, nI_sub (by omega)]; rfl
theorem reck_run {τ0 : XS} {h till : Nat} {nm : Nat → Int32} (hh : h < nA τ0) (hn : ∀ k, k < 5 → nm k = τ0.2.1 305 k) (ht : till ≤ 200) : ∀ (c s s' : List Int32) (pos fu : Nat) (τ : XS), runC nm c s = some s' → (∀ i x, c[i]? = some x → tA τ0 h 8 (pos + i) = x) → pos + c.length ≤ till → s.length ≤ pos → c.length < fu → Lx τ0 τ → Stk (τ.2.1 306) s → ∃ τ' fu', fu = fu' + c.length ∧ Lw_reckon_L6_r fu τ h (nI till) (nI s.length) (nI pos) = Lw_reckon_L6_r fu' τ' h (nI till) (nI s'.length) (nI (pos + c.length)) ∧ Lx τ0 τ' ∧ Stk (τ'.2.1 306) s' ∧ s'.length ≤ pos + c.length := by
  intro c
  induction c with
  | nil =>
    intro s s' pos fu τ hr hc hp hs hf hl hk
    cases Option.some.inj hr
    exact ⟨τ, fu, rfl, rfl, hl, hk, hs⟩
  | cons x c ih =>
    intro s s' pos fu τ hr hc hp hs hf hl hk
    obtain ⟨f, rfl, hf2⟩ := fuel hf
    simp only [List.length_cons] at hp hf2 ⊢
    have hr' : (stepC nm x s).bind (runC nm c) = some s' := hr
    have ex : tA τ h 8 pos = x := by
      have : tA τ h 8 = tA τ0 h 8 := by unfold tA; rw [hl.2.2]
      rw [this]; exact hc 0 x rfl
    have hc' : ∀ i y, c[i]? = some y → tA τ0 h 8 (pos + 1 + i) = y := fun i y hy => by
      have := hc (i + 1) y hy
      rwa [show pos + (i + 1) = pos + 1 + i by omega] at this
    have hA : h < nA τ := by unfold nA; rw [hl.2.2]; exact hh
    have l306 : ∀ g : Nat → Int32, Lx τ0 (xA τ 306 g) := fun g => hl.trans ⟨rfl, fun j hj => xA_ne hj, rfl⟩
    -- with the stack after the step
    have go : ∀ (s1 : List Int32) (τ1 : XS), stepC nm x s = some s1 → Lx τ0 τ1 → Stk (τ1.2.1 306) s1 → s1.length ≤ pos + 1 → ∃ τ' fu', f + 1 = fu' + (c.length + 1) ∧ Lw_reckon_L6_r f τ1 h (nI till) (nI s1.length) (nI (pos + 1)) = Lw_reckon_L6_r fu' τ' h (nI till) (nI s'.length) (nI (pos + (c.length + 1))) ∧ Lx τ0 τ' ∧ Stk (τ'.2.1 306) s' ∧ s'.length ≤ pos + (c.length + 1) := by
      intro s1 τ1 e1 l1 k1 len1
      rw [e1, bind_so] at hr'
      obtain ⟨τ', fu', g1, g2, g3, g4, g5⟩ := ih s1 s' (pos + 1) f τ1 hr' hc' (by omega) len1 (by omega) l1 k1
      rw [show pos + 1 + c.length = pos + (c.length + 1) by omega] at g2 g5
      exact ⟨τ', fu', by omega, g2, g3, g4, g5⟩
    have head : ∀ {β : Option (Int32 × XS)} {K : Int32 → Option (Int32 × XS)}, (if nI till ≤ nI pos then β else gA (nA τ) h (rd (tA τ h 8) 200 (nI pos) K)) = K x := by
      intro β K
      unfold gA
      rw [if_neg (nI_ge (by omega) (by omega)), if_pos hA, rd_nI (by omega) (by decide), ex]
    rw [Lw_reckon_L6_r, head]
    by_cases op : x = -13 ∨ x = -12 ∨ x = -11
    · rcases s with _ | ⟨b, _ | ⟨a, r⟩⟩
      · unfold stepC at hr'; rw [if_pos op] at hr'; cases hr'
      · unfold stepC at hr'; rw [if_pos op] at hr'; cases hr'
      · simp only [List.length_cons] at hs ⊢
        obtain ⟨k1, k2, k3⟩ := hk
        have k1' : τ.2.1 306 (r.length + 1) = b := k1
        have a1 : nI (r.length + 1 + 1) - 2 = nI r.length := by rw [show (2 : Int32) = nI 2 from rfl, nI_sub (by omega)]; rfl
        have a2 : nI (r.length + 1 + 1) - 1 = nI (r.length + 1) := by rw [show (1 : Int32) = nI 1 from rfl, nI_sub (by omega)]; rfl
        have go2 : ∀ v : Int32, stepC nm x (b :: a :: r) = some (v :: r) → ∃ τ' fu', f + 1 = fu' + (c.length + 1) ∧ wr 200 (nI (r.length + 1 + 1) + (-2)) (Lw_reckon_J217 (Lw_reckon_L6_r f) (xA τ 306 (upd (τ.2.1 306) (nI (r.length + 1 + 1) + (-2)).toNatClampNeg v)) h (nI till) ((nI (r.length + 1 + 1) + (-2)) + 1) (nI pos)) = Lw_reckon_L6_r fu' τ' h (nI till) (nI s'.length) (nI (pos + (c.length + 1))) ∧ Lx τ0 τ' ∧ Stk (τ'.2.1 306) s' ∧ s'.length ≤ pos + (c.length + 1) := by
          intro v hv
          rw [m2_len, wr_nI (by omega) (by decide), cl_nI (by omega)]
          unfold Lw_reckon_J217
          rw [nI_1, nI_1]
          exact go (v :: r) _ hv (l306 _) ⟨by rw [xA_get]; exact upd_at, by rw [xA_get]; exact k3.push (Nat.le_refl _)⟩ (by simp only [List.length_cons]; omega)
        rw [if_pos (by rcases op with e | e | e <;> rw [e] <;> decide), if_pos (show (2 : Int32) ≤ nI (r.length + 1 + 1) from (nI_leI (a := 2) (by decide) (by omega)).mpr (by omega)), a1, a2, rd_nI (by omega) (by decide), rd_nI (by omega) (by decide), k1', k2]
        rcases op with rfl | rfl | rfl
        · rw [if_neg (by decide), if_neg (by decide), if_pos rfl]
          exact go2 (a * b) rfl
        · rw [if_neg (by decide), if_neg (by decide), if_neg (by decide), if_pos rfl]
          exact go2 (a - b) rfl
        · rw [if_neg (by decide), if_neg (by decide), if_neg (by decide), if_neg (by decide), if_pos rfl]
          exact go2 (a + b) rfl
    · have push : ∀ v : Int32, stepC nm x s = some (v :: s) → ∃ τ' fu', f + 1 = fu' + (c.length + 1) ∧ Lw_reckon_J63 (Lw_reckon_L6_r f) τ h (nI till) (nI s.length + 1) (nI pos) v (nI s.length) = Lw_reckon_L6_r fu' τ' h (nI till) (nI s'.length) (nI (pos + (c.length + 1))) ∧ Lx τ0 τ' ∧ Stk (τ'.2.1 306) s' ∧ s'.length ≤ pos + (c.length + 1) := by
        intro v hv
        unfold Lw_reckon_J63 Lw_reckon_J217
        rw [wr_nI (by omega) (by decide), cl_nI (by omega), nI_1, nI_1]
        exact go (v :: s) _ hv (l306 _) ⟨by rw [xA_get]; exact upd_at, by rw [xA_get]; exact hk.push (Nat.le_refl _)⟩ (by simp only [List.length_cons]; omega)
      by_cases pos0 : 0 ≤ x
      · have st : stepC nm x s = some (x :: s) := by unfold stepC; rw [if_neg op, if_pos pos0]
        rw [i32_le, show (0 : Int32).toInt = 0 from rfl] at pos0
        rw [if_neg (fun g => by rw [i32_le, show (-11 : Int32).toInt = -11 from rfl] at g; omega), if_pos (show nI s.length < 200 from nI_lt (b := 200) (by omega) (by decide)), if_neg (fun g => by rw [i32_lt, show (0 : Int32).toInt = 0 from rfl] at g; omega)]
        exact push x st
      · by_cases n5 : (-5 : Int32) ≤ x
        · have st : stepC nm x s = some (nm ((-1) - x).toNatClampNeg :: s) := by unfold stepC; rw [if_neg op, if_neg pos0, if_pos n5]
          rw [i32_le, show (0 : Int32).toInt = 0 from rfl] at pos0
          rw [i32_le, show (-5 : Int32).toInt = -5 from rfl] at n5
          have ev : ∃ i, i < 5 ∧ (-1 : Int32) - x = nI i := by
            have : x = -1 ∨ x = -2 ∨ x = -3 ∨ x = -4 ∨ x = -5 := by
              simp only [i32_eq]
              rw [show (-1 : Int32).toInt = -1 from rfl, show (-2 : Int32).toInt = -2 from rfl, show (-3 : Int32).toInt = -3 from rfl, show (-4 : Int32).toInt = -4 from rfl, show (-5 : Int32).toInt = -5 from rfl]
              omega
            rcases this with rfl | rfl | rfl | rfl | rfl
            · exact ⟨0, by decide, by decide⟩
            · exact ⟨1, by decide, by decide⟩
            · exact ⟨2, by decide, by decide⟩
            · exact ⟨3, by decide, by decide⟩
            · exact ⟨4, by decide, by decide⟩
          obtain ⟨i, i5, ei⟩ := ev
          rw [if_neg (fun g => by rw [i32_le, show (-11 : Int32).toInt = -11 from rfl] at g; omega), if_pos (show nI s.length < 200 from nI_lt (b := 200) (by omega) (by decide)), if_pos (by rw [i32_lt, show (0 : Int32).toInt = 0 from rfl]; omega), ei, rd_nI i5 (by decide)]
          rw [ei, cl_nI (by omega), hn i i5, ← hl.2.1 305 (by decide)] at st
          exact push _ st
        · unfold stepC at hr'; rw [if_neg op, if_neg pos0, if_neg n5] at hr'; cases hr'
theorem reck_sum {τ : XS} {h from' till : Nat} {nm : Nat → Int32} {c : List Int32} {v : Int32} (hh : h < nA τ) (hn : ∀ k, k < 5 → nm k = τ.2.1 305 k) (ht : till ≤ 200) (hr : RunsTo nm c v) (hc : ∀ i x, c[i]? = some x → tA τ h 8 (from' + i) = x) (hl : from' + c.length = till) : ∃ τ', Lw_reckon τ h (nI from') (nI till) = some (v, τ') ∧ Lx τ τ' := by
  obtain ⟨τ', fu', g1, g2, g3, g4, g5⟩ := reck_run hh hn ht c [] [v] from' 100000 τ (hr []) hc (by omega) (Nat.zero_le _) (by omega) Lx.rfl trivial
  refine ⟨τ', ?_, g3⟩
  unfold Lw_reckon Lw_reckon_L6
  have g2' : Lw_reckon_L6_r 100000 τ h (nI till) 0 (nI from') = Lw_reckon_L6_r fu' τ' h (nI till) (nI 1) (nI (from' + c.length)) := g2
  refine g2'.trans ?_
  obtain ⟨f, rfl, -⟩ := fuel (show 0 < fu' by omega)
  have e0 : τ'.2.1 306 0 = v := g4.1
  rw [Lw_reckon_L6_r, if_pos (by rw [hl]; exact Int32.le_refl _), if_neg (show ¬ nI 1 ≤ 0 by decide), show nI 1 - 1 = nI 0 by decide, rd_nI (by decide) (by decide), e0]
theorem reck_tests {τ0 : XS} {h till : Nat} {nm : Nat → Int32} (hh : h < nA τ0) (hn : ∀ k, k < 5 → nm k = τ0.2.1 305 k) (ht : till ≤ 200) : ∀ (m : Nat) (c : List Int32) (b : Int32) (pos fu : Nat) (τ : XS), TestsN nm m c b → (∀ i x, c[i]? = some x → tA τ0 h 8 (pos + i) = x) → pos + c.length = till → c.length < fu → Lx τ0 τ → ∃ r τ', Lw_reckon_L6_r fu τ h (nI till) 0 (nI pos) = some (r, τ') ∧ Lx τ0 τ' ∧ (r = 0 ↔ b = 0) := by
  intro m
  induction m with
  | zero =>
    rintro c b pos fu τ ⟨rfl, rfl⟩ hc hp hf hl
    obtain ⟨f, rfl, -⟩ := fuel hf
    exact ⟨1, τ, by rw [Lw_reckon_L6_r, if_pos (by rw [← hp]; exact Int32.le_refl _), if_pos (Int32.le_refl _)], hl, Iff.rfl⟩
  | succ m ih =>
    rintro c b pos fu τ ⟨c1, c2, rest, v, w, x, b', rfl, hx, r1, r2, hN, rfl⟩ hc hp hf hl
    have len : (c1 ++ c2 ++ [ccd x] ++ rest).length = (c1 ++ c2).length + 1 + rest.length := by
      rw [List.length_append, List.length_append (as := c1 ++ c2), List.length_singleton]
    have run : runC nm (c1 ++ c2) [] = some [w, v] := by rw [runC_app, r1 [], bind_so, r2]
    have hca : ∀ i y, (c1 ++ c2)[i]? = some y → tA τ0 h 8 (pos + i) = y := fun i y hy => hc i y (by
      rw [List.append_assoc (c1 ++ c2), List.getElem?_append_left (by
        have := (List.getElem?_eq_some_iff.mp hy).1; exact this)]
      exact hy)
    obtain ⟨τ1, f1, g1, g2, g3, g4, g5⟩ := reck_run hh hn ht (c1 ++ c2) [] [w, v] pos fu τ run hca (by omega) (Nat.zero_le _) (by omega) hl trivial
    have g2' : Lw_reckon_L6_r fu τ h (nI till) 0 (nI pos) = Lw_reckon_L6_r f1 τ1 h (nI till) (nI 2) (nI (pos + (c1 ++ c2).length)) := g2
    obtain ⟨f2, rfl, hf2⟩ := fuel (show rest.length < f1 by omega)
    have ex : tA τ1 h 8 (pos + (c1 ++ c2).length) = ccd x := by
      have : tA τ1 h 8 = tA τ0 h 8 := by unfold tA; rw [g3.2.2]
      rw [this]
      refine hc (c1 ++ c2).length (ccd x) ?_
      rw [List.append_assoc (c1 ++ c2), List.getElem?_append_right (Nat.le_refl _), Nat.sub_self]; rfl
    have hA : h < nA τ1 := by unfold nA; rw [g3.2.2]; exact hh
    have head : ∀ {β : Option (Int32 × XS)} {K : Int32 → Option (Int32 × XS)}, (if nI till ≤ nI (pos + (c1 ++ c2).length) then β else gA (nA τ1) h (rd (tA τ1 h 8) 200 (nI (pos + (c1 ++ c2).length)) K)) = K (ccd x) := by
      intro β K
      unfold gA
      rw [if_neg (nI_ge (by omega) (by omega)), if_pos hA, rd_nI (by omega) (by decide), ex]
    have next : ∃ r τ', Lw_reckon_J217 (Lw_reckon_L6_r f2) τ1 h (nI till) (nI 2 + (-2)) (nI (pos + (c1 ++ c2).length)) = some (r, τ') ∧ Lx τ0 τ' ∧ (r = 0 ↔ b' = 0) := by
      unfold Lw_reckon_J217
      rw [nI_1, show nI 2 + (-2) = 0 by decide]
      refine ih rest b' (pos + (c1 ++ c2).length + 1) f2 τ1 hN (fun i y hy => ?_) (by omega) (by omega) g3
      have := hc ((c1 ++ c2).length + 1 + i) y (by
        rw [List.getElem?_append_right (by rw [List.length_append (as := c1 ++ c2), List.length_singleton]; omega), List.length_append (as := c1 ++ c2), List.length_singleton, show (c1 ++ c2).length + 1 + i - ((c1 ++ c2).length + 1) = i by omega]
        exact hy)
      rwa [show pos + ((c1 ++ c2).length + 1 + i) = pos + (c1 ++ c2).length + 1 + i by omega] at this
    rw [g2', Lw_reckon_L6_r, head]
    have s1 : τ1.2.1 306 1 = w := g4.1
    have s0 : τ1.2.1 306 0 = v := g4.2.1
    rw [if_pos (by rcases hx with e | e | e <;> rw [e] <;> decide), if_pos (show (2 : Int32) ≤ nI 2 by decide), show nI 2 - 2 = nI 0 by decide, show nI 2 - 1 = nI 1 by decide, rd_nI (by decide) (by decide), rd_nI (by decide) (by decide), s0, s1]
    rcases hx with rfl | rfl | rfl
    · rw [show ccd 60 = -14 by decide, if_neg (by decide), if_pos rfl]
      by_cases c : v < w
      · have cv : cmpv 60 v w = 1 := if_neg (show ¬ w ≤ v from fun g => by rw [i32_le] at g; rw [i32_lt] at c; omega)
        rw [if_pos c, cv, if_neg n10]
        exact next
      · have cv : cmpv 60 v w = 0 := if_pos (show w ≤ v by rw [i32_le]; rw [i32_lt] at c; omega)
        rw [if_neg c, cv, if_pos rfl]
        exact ⟨0, τ1, rfl, g3, Iff.rfl⟩
    · rw [show ccd 61 = -15 by decide, if_pos rfl]
      have cv : cmpv 61 v w = if v = w then 1 else 0 := rfl
      by_cases c : v = w
      · rw [if_pos c, cv, if_pos c, if_neg n10]
        exact next
      · rw [if_neg c, cv, if_neg c, if_pos rfl]
        exact ⟨0, τ1, rfl, g3, Iff.rfl⟩
    · rw [show ccd 62 = -16 by decide, if_neg (by decide), if_neg (by decide), if_neg (by decide), if_neg (by decide), if_neg (by decide)]
      by_cases c : w < v
      · have cv : cmpv 62 v w = 1 := if_neg (show ¬ v ≤ w from fun g => by rw [i32_le] at g; rw [i32_lt] at c; omega)
        rw [if_pos c, cv, if_neg n10]
        exact next
      · have cv : cmpv 62 v w = 0 := if_pos (show v ≤ w by rw [i32_le]; rw [i32_lt] at c; omega)
        rw [if_neg c, cv, if_pos rfl]
        exact ⟨0, τ1, rfl, g3, Iff.rfl⟩
