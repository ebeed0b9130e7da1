/-! an act is added to the order by days -/
theorem J64_E {τ : XS} {h na m : Nat} (hm : m < 9) (hna : na < 9) (h302 : τ.1 302 = nI na) (hA : h < nA τ) : Lw_addAct_J64 τ (some h) (nI m) = some ((), xI (xR (xA τ 303 (upd (τ.2.1 303) m (nI na))) (va_up τ.2.2.2.2.1 na (some h))) 302 (nI (na + 1))) := by
  have hA' : h < nA (xA τ 303 (upd (τ.2.1 303) m (nI na))) := hA
  have e1 : ∀ f, (xA τ 303 f).1 302 = nI na := fun _ => h302
  have e2 : ∀ f g, (xR (xA τ 303 f) g).1 302 = nI na := fun _ _ => h302
  unfold Lw_addAct_J64 oS
  simp only [h302, e1, e2, cl_nI (show m < 2 ^ 31 by omega), cl_nI (show na < 2 ^ 31 by omega), wr_nI hm (show 9 < 2 ^ 31 by decide), wr_nI hna (show 9 < 2 ^ 31 by decide), if_pos hA', nI_1]
  rfl
theorem addAct_loop {na h : Nat} {D : Nat → Int32} (hna : na < 9) : ∀ (m fu : Nat) (τ : XS) (pre suf : List Nat), pre.length = m → m < fu → m + suf.length = na → (∀ x, x ∈ pre → x < na) → (∀ (k : Nat) (h : k < pre.length), τ.2.1 303 k = nI pre[k]) → (∀ (k : Nat) (h : k < suf.length), τ.2.1 303 (pre.length + 1 + k) = nI suf[k]) → (pre ++ suf).Pairwise (ltD D) → (∀ x, x ∈ suf → D na < D x) → τ.1 302 = nI na → h < nA τ → (∀ x, x < na → Lw_dayOf τ (nI x) = some (D x)) → ∃ (f : Nat → Int32) (bl' : List Nat), Lw_addAct_L24_r fu τ (some h) (D na) (nI m) = some ((), xI (xR (xA τ 303 f) (va_up τ.2.2.2.2.1 na (some h))) 302 (nI (na + 1))) ∧ bl'.length = na + 1 ∧ (∀ (k : Nat) (h : k < bl'.length), f k = nI bl'[k]) ∧ bl'.Pairwise (ltD D) ∧ (∀ x, x ∈ bl' ↔ x = na ∨ x ∈ pre ++ suf) := by
  intro m
  have stop : ∀ (m : Nat) (τ : XS) (pre suf : List Nat), pre.length = m → m + suf.length = na → (∀ (k : Nat) (h : k < pre.length), τ.2.1 303 k = nI pre[k]) → (∀ (k : Nat) (h : k < suf.length), τ.2.1 303 (pre.length + 1 + k) = nI suf[k]) → (pre ++ suf).Pairwise (ltD D) → (∀ x, x ∈ suf → D na < D x) → (∀ x, x ∈ pre → ltD D x na) → τ.1 302 = nI na → h < nA τ → (∃ (f : Nat → Int32) (bl' : List Nat), Lw_addAct_J64 τ (some h) (nI m) = some ((), xI (xR (xA τ 303 f) (va_up τ.2.2.2.2.1 na (some h))) 302 (nI (na + 1))) ∧ bl'.length = na + 1 ∧ (∀ (k : Nat) (h : k < bl'.length), f k = nI bl'[k]) ∧ bl'.Pairwise (ltD D) ∧ (∀ x, x ∈ bl' ↔ x = na ∨ x ∈ pre ++ suf)) := by
    intro m τ pre suf hm hl h1 h2 h3 h4 h5 h302 hA
    refine ⟨upd (τ.2.1 303) m (nI na), pre ++ na :: suf, J64_E (by omega) hna h302 hA, ?_, ?_, ?_, ?_⟩
    · rw [List.length_append, List.length_cons, hm]; omega
    · intro k hk
      rw [List.length_append, List.length_cons] at hk
      rcases Nat.lt_trichotomy k m with g | g | g
      · rw [pk_un (by omega), h1 k (by omega), List.getElem_append_left (by omega)]
      · subst g
        rw [pk_us, List.getElem_append_right (by omega)]
        simp [hm]
      · obtain ⟨j, rfl⟩ : ∃ j, k = pre.length + 1 + j := ⟨k - (pre.length + 1), by omega⟩
        rw [pk_un (by omega), h2 j (by omega), List.getElem_append_right (by omega)]
        congr 1
        simp [show pre.length + 1 + j - pre.length = j + 1 by omega]
    · rw [List.pairwise_append] at h3 ⊢
      refine ⟨h3.1, List.pairwise_cons.mpr ⟨fun x hx => Or.inl (h4 x hx), h3.2.1⟩, fun a ha b hb => ?_⟩
      rcases List.mem_cons.mp hb with g | g
      · rw [g]; exact h5 a ha
      · exact h3.2.2 a ha b g
    · intro x
      rw [List.mem_append, List.mem_cons, List.mem_append]
      constructor
      · rintro (g | g | g)
        · exact Or.inr (Or.inl g)
        · exact Or.inl g
        · exact Or.inr (Or.inr g)
      · rintro (g | g | g)
        · exact Or.inr (Or.inl g)
        · exact Or.inl g
        · exact Or.inr (Or.inr g)
  induction m with
  | zero =>
    intro fu τ pre suf hm hf hl hb h1 h2 h3 h4 h302 hA hD
    obtain ⟨f, rfl, -⟩ := fuel hf
    have hp : pre = [] := List.length_eq_zero_iff.mp hm
    rw [Lw_addAct_L24_r, if_pos (by decide)]
    exact stop 0 τ pre suf hm hl h1 h2 h3 h4 (by rw [hp]; intro x hx; exact absurd hx (by simp)) h302 hA
  | succ m ih =>
    intro fu τ pre suf hm hf hl hb h1 h2 h3 h4 h302 hA hD
    obtain ⟨f, rfl, hf2⟩ := fuel hf
    obtain ⟨a, x, hx, ha⟩ := snoc_of pre hm
    have x1 : τ.2.1 303 m = nI x := by
      rw [h1 m (by omega)]
      congr 1
      subst hx ha
      simp
    have x2 : x < na := hb x (by rw [hx]; simp)
    have m1 : nI (m + 1) - 1 = nI m := by rw [← nI_1, Int32.add_sub_cancel]
    have m2 : nI (m + 1) + -1 = nI m := by rw [← m1]; exact (Int32.sub_eq_add_neg _ _).symm
    have unf : Lw_addAct_L24_r (f + 1) τ (some h) (D na) (nI (m + 1)) = if D x ≤ D na then Lw_addAct_J64 τ (some h) (nI (m + 1)) else Lw_addAct_L24_r f (xA τ 303 (upd (τ.2.1 303) (m + 1) (nI x))) (some h) (D na) (nI m) := by
      rw [Lw_addAct_L24_r, if_neg (by rw [show (0 : Int32) = nI 0 from rfl, nI_leI (by omega) (by omega)]; omega), m1, m2]
      simp only [rd_nI (show m < 9 by omega) (show 9 < 2 ^ 31 by decide), x1, hD x x2, bind_so, wr_nI (show m + 1 < 9 by omega) (show 9 < 2 ^ 31 by decide), cl_nI (show m + 1 < 2 ^ 31 by omega)]
    by_cases c : D x ≤ D na
    · rw [unf, if_pos c]
      refine stop (m + 1) τ pre suf hm hl h1 h2 h3 h4 ?_ h302 hA
      have lx : ltD D x na := by
        unfold ltD
        rw [i32_lt, i32_eq]
        rw [i32_le] at c
        omega
      intro y hy
      rw [hx] at hy
      rcases List.mem_append.mp hy with g | g
      · have hyx : ltD D y x := by
          rw [hx, List.append_assoc, List.pairwise_append] at h3
          exact h3.2.2 y g x (by simp)
        unfold ltD at hyx lx ⊢
        rw [i32_lt, i32_eq] at hyx lx ⊢
        omega
      · rw [List.mem_singleton.mp g]; exact lx
    · obtain ⟨f', bl', g1, g2, g3, g4, g5⟩ := ih f (xA τ 303 (upd (τ.2.1 303) (m + 1) (nI x))) a (x :: suf) ha (by omega) (by rw [List.length_cons]; omega) (fun y hy => hb y (by rw [hx]; simp [hy])) (fun k hk => by
          rw [xA_get, pk_un (by omega), h1 k (by omega)]
          congr 1
          subst hx
          rw [List.getElem_append_left hk]) (fun k hk => by
          rw [xA_get]
          cases k with
          | zero => rw [ha, Nat.add_zero, pk_us]; rfl
          | succ k =>
            rw [List.length_cons] at hk
            rw [pk_un (by omega)]
            have := h2 k (by omega)
            rw [hm] at this
            rw [ha, show m + 1 + (k + 1) = m + 1 + 1 + k by omega, this]
            rfl) (by rw [hx, List.append_assoc] at h3; exact h3) (by
          intro y hy
          rcases List.mem_cons.mp hy with g | g
          · rw [g, i32_lt]; rw [i32_le] at c; omega
          · exact h4 y g) h302 hA hD
      refine ⟨f', bl', ?_, g2, g3, g4, fun y => ?_⟩
      · rw [unf, if_neg c, g1, xA_same]; rfl
      · rw [g5, hx]; simp
theorem addAct_spec {na h : Nat} {D : Nat → Int32} {τ : XS} {hh : Nat → Nat} {od : List Nat} (hna : na ≤ 8) (h302 : τ.1 302 = nI na) (hA : h < nA τ) (hr : ∀ a, a < na → τ.2.2.2.2.1 a = some (hh a) ∧ hh a < nA τ ∧ hh a ≠ h) (hl : od.length = na) (ho : ∀ (k : Nat) (q : k < od.length), τ.2.1 303 k = nI od[k]) (hp : od.Pairwise (ltD D)) (hm : ∀ a, a ∈ od ↔ a < na) (hD : ∀ a, a < na → tF τ (hh a) 0 = D a) : ∃ (f : Nat → Int32) (od' : List Nat), Lw_addAct τ (some h) (D na) = some ((), xI (xR (xA (xTI τ h 0 (D na)) 303 f) (va_up τ.2.2.2.2.1 na (some h))) 302 (nI (na + 1))) ∧ od'.length = na + 1 ∧ (∀ (k : Nat) (q : k < od'.length), f k = nI od'[k]) ∧ od'.Nodup ∧ od'.Pairwise (ltD D) ∧ (∀ a, a ∈ od' ↔ a < na + 1) := by
  have day : ∀ x, x < na → Lw_dayOf (xTI τ h 0 (D na)) (nI x) = some (D x) := by
    intro x hx
    obtain ⟨r1, r2, r3⟩ := hr x hx
    have t : tF (xTI τ h 0 (D na)) (hh x) 0 = D x := by
      have : tF (xTI τ h 0 (D na)) (hh x) 0 = tF τ (hh x) 0 := by unfold tF; rw [TI_o r3]
      rw [this]; exact hD x hx
    have h302' : (xTI τ h 0 (D na)).1 302 = nI na := h302
    have r1' : (xTI τ h 0 (D na)).2.2.2.2.1 x = some (hh x) := r1
    have r2' : hh x < nA (xTI τ h 0 (D na)) := r2
    unfold Lw_dayOf Lw_actAt Lw_actAt_J22
    rw [if_neg (nI_not_lt0 (by omega)), h302', if_neg (nI_ge hx (by omega)), rd_nI (by omega) (by decide), r1', bind_so]
    unfold oN oA
    simp only [if_pos r2']
    rw [t]
  obtain ⟨f, od', g1, g2, g3, g4, g5⟩ := addAct_loop (h := h) (D := D) (show na < 9 by omega) na 100000 (xTI τ h 0 (D na)) od [] hl (by omega) (by simp) (fun x hx => (hm x).mp hx) ho (fun k q => absurd q (Nat.not_lt_zero _)) (by rw [List.append_nil]; exact hp) (fun x hx => absurd hx (by simp)) h302 hA day
  refine ⟨f, od', ?_, g2, g3, ?_, g4, fun a => ?_⟩
  · unfold Lw_addAct oN oA Lw_addAct_L24
    simp only [if_pos hA]
    rw [h302, if_pos (show nI na ≤ 8 from (nI_leI (b := 8) (by omega) (by decide)).mpr hna)]
    have e : (xTI τ h 0 (D na)).1 302 = nI na := h302
    rw [e, g1]
    rfl
  · refine g4.imp fun {a b} q => ?_
    rintro rfl
    unfold ltD at q
    rw [i32_lt] at q
    omega
  · rw [g5, List.append_nil, hm]; omega
/-- a clause that was read answers alike from now on -/
theorem clause_new {a h n nc c : Nat} {T : Nat → Int32} {cd : List Int32} {σ : MS} {τ : XS} (ha : a < 9) (hT : TpOK n T) (hc : CFs a h n T cd σ τ nc) (hcn : c < nc) (hnc : nc ≤ 8) (h25 : σ.2.1 25 a = nI n) (h22 : ∀ i, i < n → σ.2.1 22 (200 * a + i) = T i) (h8 : ∀ i x, cd[i]? = some x → tA τ h 8 i = x) (hl : cd.length ≤ n) : ClauseI σ τ a c h := by
  have hn := hT.1
  obtain ⟨-, -, f, cs, ts, k1, k1', y1, y2, y3, y4, y5, y6, y7, y8, y9⟩ := hc c hcn
  intro σ' τ' e22 e23 e24 e25 hA e8 hnm
  have idx : (8 : Int32) * nI a + nI c = nI (8 * a + c) := by rw [show (8 : Int32) = nI 8 from rfl, nI_mul, nI_add]
  have mr : ∀ k, k ≤ n → MR a n T k 0 (sI (sI (sI σ' 46 (nI a)) 47 (nI k)) 48 0) := fun k hk => ⟨ha, hk, by rw [sI_ne (by decide), sI_ne (by decide), sI_get], by rw [sI_ne (by decide), sI_get], sI_get, by rw [sI_2, sI_2, sI_2, e25]; exact h25, fun i hi => by rw [sI_2, sI_2, sI_2, e22 i (by omega)]; exact h22 i hi⟩
  have lk : ∀ k, Lk σ' (sI (sI (sI σ' 46 (nI a)) 47 (nI k)) 48 0) := fun k => ((Lk.i (by simp)).trans (Lk.i (by simp))).trans (Lk.i (by simp))
  have segS : ∀ i x, cs[i]? = some x → tA τ' h 8 (f + i) = x := fun i x hx => by
    rw [e8]
    exact h8 _ _ (y5 i x (by rw [List.getElem?_append_left (List.getElem?_eq_some_iff.mp hx).1]; exact hx))
  have segT : ∀ i x, ts[i]? = some x → tA τ' h 8 (f + cs.length + i) = x := fun i x hx => by
    rw [e8]
    refine h8 _ _ ?_
    have := y5 (cs.length + i) x (by rw [List.getElem?_append_right (Nat.le_add_right _ _), Nat.add_sub_cancel_left]; exact hx)
    rwa [← Nat.add_assoc] at this
  rw [y1, y2, y3]
  constructor
  · have rk : ∀ m b, TestsN (σ'.2.1 49) m ts b → ∃ r τ1, Lw_reckon τ' h (nI (f + cs.length)) (nI (f + cs.length + ts.length)) = some (r, τ1) ∧ Lx τ' τ1 ∧ (r = 0 ↔ b = 0) := fun m b hN => reck_tests hA hnm (by omega) m ts b (f + cs.length) 100000 τ' hN segT rfl (by omega) Lx.rfl
    rcases y9 with ⟨t0, e⟩ | ⟨k2, k2', g1, g2, g3⟩
    · obtain ⟨r, τ1, x1, x2, x3⟩ := rk 0 1 ⟨t0, rfl⟩
      refine ⟨1, σ', r, τ1, ?_, Lk.rfl, Or.inr rfl, x1, x2, x3⟩
      unfold M_isSo
      rw [idx, rd_nI (by omega) (by decide), e24, e, if_pos rfl]
    · obtain ⟨b, σ1, u1, u2, -, u4, m, u5⟩ := g3 a _ (mr k2 g1)
      obtain ⟨r, τ1, x1, x2, x3⟩ := rk m b u5
      refine ⟨b, σ1, r, τ1, ?_, (lk k2).trans u2, u4, x1, x2, x3⟩
      have e46 : (sI σ' 46 (nI a)).2.1 24 (8 * a + c) = nI k2 := by rw [sI_2, e24, g2]
      unfold M_isSo
      rw [idx, rd_nI (by omega) (by decide), e24, g2, if_neg (nI_ne_m1 (by omega)), rd_nI (by omega) (by decide), e46, u1, bind_pq]
      rcases u4 with rfl | rfl
      · rw [bz_0]
      · rw [bz_1]
  · obtain ⟨v, σ1, u1, u2, -, u4⟩ := y8 a _ (mr k1 y7)
    obtain ⟨τ1, x1, x2⟩ := reck_sum (from' := f) (till := f + cs.length) hA hnm (by omega) u4 segS rfl
    have e46 : (sI σ' 46 (nI a)).2.1 23 (8 * a + c) = nI k1 := by rw [sI_2, e23, y6]
    have head : M_comesTo σ' (nI a) (nI c) = (if 0 ≤ v then if v ≤ 9999 then some (v, σ1) else some (9999, σ1) else some (0, σ1)) := by
      unfold M_comesTo
      rw [idx, rd_nI (by omega) (by decide), e46, u1, bind_pq]
    have k := (lk k1).trans u2
    by_cases c0 : 0 ≤ v
    · by_cases c1 : v ≤ 9999
      · exact ⟨v, σ1, v, τ1, by rw [head, if_pos c0, if_pos c1], k, x1, x2, by unfold Lw_bounded; rw [if_pos c0, if_pos c1], ⟨i32_le.mp c0, i32_le.mp c1⟩⟩
      · exact ⟨9999, σ1, v, τ1, by rw [head, if_pos c0, if_neg c1], k, x1, x2, by unfold Lw_bounded; rw [if_pos c0, if_neg c1], ⟨by decide, by decide⟩⟩
    · exact ⟨0, σ1, v, τ1, by rw [head, if_neg c0], k, x1, x2, by unfold Lw_bounded; rw [if_neg c0], ⟨by decide, by decide⟩⟩
