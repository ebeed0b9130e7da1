/-! seats that stand empty -/
theorem nI_sub {a b : Nat} (h : b ≤ a) : nI a - nI b = nI (a - b) := by
  have e : nI a = nI (a - b) + nI b := by rw [nI_add, Nat.sub_add_cancel h]
  rw [e, Int32.add_sub_cancel]
def cnt10 (m : Nat) : Nat := ((List.range 10).filter (fun s => m.testBit s)).length
set_option maxRecDepth 8000 in
theorem bc10 : ∀ m, m < 1024 → Jd_bitCount () (nI m) = some (nI (cnt10 m)) := by decide +kernel
set_option maxRecDepth 20000 in
theorem or10 : ∀ s, s < 10 → ∀ m, m < 1024 → (nI m ||| (1 <<< (nI s &&& 31))) = nI (m ||| 2 ^ s) := by decide +kernel
theorem fl_not {S : Nat → Prop} : ∀ K, (fl S K).length + (fl (fun i => ¬ S i) K).length = K := by
  intro K
  induction K with
  | zero => rfl
  | succ K ih =>
    by_cases c : S K
    · rw [fl_pos c, fl_neg (S := fun i => ¬ S i) (fun g => g c), List.length_append, List.length_singleton]; omega
    · rw [fl_neg c, fl_pos (S := fun i => ¬ S i) c, List.length_append, List.length_singleton]; omega
theorem cnt10_fl {m : Nat} {S : Nat → Prop} (h : ∀ s, s < 10 → (m.testBit s = true ↔ S s)) : cnt10 m = (fl S 10).length := by
  unfold cnt10 fl
  congr 1
  apply List.filter_congr
  intro s hs
  rw [List.mem_range] at hs
  have := h s hs
  by_cases c : S s
  · simp [c, this.mpr c]
  · have : m.testBit s = false := by
      cases e : m.testBit s
      · rfl
      · exact absurd (this.mp e) c
    simp [c, this]
section VAC
variable {σ σ' : MS} {τ τ' : XS} {K np ne na : Nat} {bl od : List Nat} {hh : Nat → Nat}
def Tk (σ : MS) (np : Nat) (d : Int32) (s : Nat) : Prop := ∃ p, p < np ∧ M_isMember σ (nI p) d = some 1 ∧ M_seatOf σ (nI p) d = some (nI s)
theorem CV.taken (h : CV σ τ K np ne bl na hh od) (s : Nat) (d : Int32) : ∃ v : Int32, (v = 0 ∨ v = 1) ∧ UM σ (fun t => M_isSeated t (nI s) d) v ∧ (v = 1 ↔ Tk σ np d s) := by
  obtain ⟨v, v0, v1, v2⟩ := crossPP (σ := σ) (τ := τ) (Q := fun v : Int32 => v = 0 ∨ v = 1) (f := fun t => M_isSeated t (nI s) d) (g := fun t => Lv_isTaken t (nI s) d) fun σ' τ' hm hx => by
    obtain ⟨v, a, b, c, -⟩ := (h.rr hm hx).2.1.taken (nI s) d
    exact ⟨v, a, b, c⟩
  refine ⟨v, v0, v1, ?_⟩
  obtain ⟨w, -, b, -, e⟩ := h.2.1.taken (nI s) d
  have : M_isSeated σ (nI s) d = some v := v1 σ (Rm.refl σ)
  rw [b] at this
  rw [← Option.some.inj this]
  exact e
/-- a member has one of the seats -/
theorem CV.memSeat (h : CV σ τ K np ne bl na hh od) {p : Nat} (hp : p < np) {d : Int32} (hm : M_isMember σ (nI p) d = some 1) : ∃ s : Nat, (s : Int) < (σ.1 6).toInt ∧ M_seatOf σ (nI p) d = some (nI s) := by
  have vw := h.2.1
  obtain ⟨r4, j1, j2, j3⟩ := vw.lastJ hp d
  have hK : K ≤ 200 := vw.1
  rcases j3 with rfl | ⟨e, rfl, he, hs⟩
  · exfalso
    unfold M_isMember M_isMember_J21 at hm
    obtain ⟨v, hv, l1, -⟩ := vw.lives hp d
    rw [l1, bind_so] at hm
    rcases hv with rfl | rfl
    · rw [if_pos rfl, if_pos rfl] at hm
      exact absurd hm (by decide)
    · obtain ⟨r, e1, e2, e3⟩ := vw.last hp d (kinds := 52) (by decide) (by decide)
      rw [if_neg n10, e1, bind_so] at hm
      rcases e3 with rfl | ⟨e, rfl, he, hse⟩
      · rw [if_pos rfl] at hm
        exact absurd hm (by decide)
      · rw [if_neg (nI_ne_m1 (by omega)), rd_nI (by omega) (by decide)] at hm
        by_cases c4 : σ.2.1 8 e = 4
        · rw [if_pos c4] at hm
          exact absurd hm (by decide)
        · rw [if_neg c4, j1, bind_so, if_pos rfl] at hm
          exact absurd hm (by decide)
  · obtain ⟨⟨k, hk7, ek⟩, -⟩ := vw.2.2.2.2.2.2.2.1 e he hs.1
    have g := hs.2.1
    rw [ek] at g
    have k2 : σ.2.1 8 e = 2 := by rw [ek]; exact (kind_j hk7).mp g
    rcases h.1.2.1.2.2.2.2.2.2.2.2.1 e (by have := h.2.2.1; omega) with ⟨g, -⟩ | ⟨-, -, q, -, -, -, -, -, g, -⟩
    · rw [k2] at g; exact absurd g (by decide)
    · obtain ⟨g1, g2, -⟩ := g k2
      obtain ⟨s, hs31, es⟩ := nI_of (x := σ.2.1 10 e) (by rw [i32_lt, show (0 : Int32).toInt = 0 from rfl]; omega)
      refine ⟨s, by rw [es, nI_i hs31] at g2; exact g2, ?_⟩
      unfold M_seatOf
      rw [j1, bind_so, if_neg (nI_ne_m1 (by omega)), rd_nI (by omega) (by decide), es]
theorem CV.vacant (h : CV σ τ K np ne bl na hh od) {Y : Nat} (hY : Y < 100) : ∃ v : Int64, QM σ (fun s => M_vacantOf s (nI Y)) v ∧ QX τ (fun t => Cn_vacantIn t (nI Y)) v := by
  have h24 : np ≤ 24 := h.1.1.1
  have hK : K ≤ 200 := h.2.1.1
  obtain ⟨-, -, -, -, -, ha, -, hw, hsg⟩ := h.2.1
  obtain ⟨s1, s2⟩ : InR (σ.1 6) 0 10 ∧ τ.1 105 = σ.1 6 := h.1.2.1.2.2.2.2.2.2.2.2.2.2.2.2.2.2.2.2.2
  obtain ⟨S, hS, eS⟩ := inRn (k := σ.1 6) (n := 10) s1 (by decide)
  have tkS : ∀ s, s < 2 ^ 31 → Tk σ np (nI (100 * Y)) s → s < S := by
    rintro s h31 ⟨p, hp, hm, hse⟩
    obtain ⟨s', a, b⟩ := h.memSeat hp hm
    rw [hse] at b
    rw [eS, nI_i (by omega)] at a
    have := (nI_eq h31 (by omega)).mp (Option.some.inj b)
    omega
  obtain ⟨w, u, -, -, w1, w2, -, w3, -⟩ := h.comes 4 (p0 := -1) (d := nI (100 * Y)) (Or.inl rfl) (dI (by omega))
  have eu : u = w := w3 (by unfold Stq; decide)
  subst eu
  refine ⟨(nI (fl (fun s => ¬ Tk σ np (nI (100 * Y)) s) S).length).toInt64 * u.toInt64, fun σ' hm => ?_, fun τ' hx => ?_⟩
  · have key : ∀ (m i fu : Nat) (σ' : MS), i + m = S → m < fu → Rm σ σ' → ∃ σ1, M_vacantOf_L4_r fu σ' (nI Y) (nI (fl (fun s => ¬ Tk σ np (nI (100 * Y)) s) i).length) (nI i) = some ((nI (fl (fun s => ¬ Tk σ np (nI (100 * Y)) s) S).length).toInt64 * u.toInt64, σ1) ∧ Rm σ σ1 := by
      intro m
      induction m with
      | zero =>
        intro i fu σ' hi hf hm
        obtain ⟨f, rfl, -⟩ := fuel hf
        have hi : i = S := by omega
        subst hi
        have hl := fl_len (S := fun s => ¬ Tk σ np (nI (100 * Y)) s) (K := i)
        rw [M_vacantOf_L4_r, hm.1 6 (by decide) (by decide) (by decide), eS, if_pos (Int32.le_refl _), yd']
        by_cases c : nI (fl (fun s => ¬ Tk σ np (nI (100 * Y)) s) i).length = 0
        · rw [if_pos c, c]
          refine ⟨σ', ?_, hm⟩
          rw [show (0 : Int32).toInt64 = 0 from rfl, Int64.zero_mul]
        · rw [if_neg c]
          obtain ⟨σ1, q1, q2⟩ := w1 σ' hm
          have q1' : M_ruled σ' 4 (-1) (nI (100 * Y)) (nI (100 * Y)) = some (u, σ1) := q1
          rw [q1', bind_pq]
          exact ⟨σ1, rfl, q2⟩
      | succ m ih =>
        intro i fu σ' hi hf hm
        obtain ⟨f, rfl, hf2⟩ := fuel hf
        obtain ⟨v, v0, v1, v2⟩ := h.taken i (nI (100 * Y))
        have v1' : M_isSeated σ' (nI i) (nI (100 * Y)) = some v := v1 σ' hm
        have nx := ih (i + 1) f σ' (by omega) (by omega) hm
        rw [M_vacantOf_L4_r, hm.1 6 (by decide) (by decide) (by decide), eS, if_neg (nI_ge (by omega) (by omega)), yd', v1', bind_so]
        unfold M_vacantOf_J30
        rcases v0 with rfl | rfl
        · have ng : ¬ Tk σ np (nI (100 * Y)) i := fun g => absurd (v2.mpr g) (by decide)
          rw [if_pos rfl, nI_len (S := fun s => ¬ Tk σ np (nI (100 * Y)) s) ng, nI_1]
          exact nx
        · have g : Tk σ np (nI (100 * Y)) i := v2.mp rfl
          rw [if_neg n10, Int32.add_zero, nI_len' (S := fun s => ¬ Tk σ np (nI (100 * Y)) s) (fun q => q g), nI_1]
          exact nx
    obtain ⟨σ1, k1, k2⟩ := key S 0 100000 σ' (by omega) (by omega) hm
    exact ⟨σ1, k1, k2⟩
  · -- the class: a bit for each seat
    have fin : ∀ (m : Nat) (τ' : XS), m < 1024 → Rx τ τ' → (∀ s, s < 10 → (m.testBit s = true ↔ Tk σ np (nI (100 * Y)) s)) → ∃ τ1, (Jd_bitCount τ' (nI m)).bind (fun r1 => ((Cn_comesTo τ' 4 (-1) (nI (100 * Y))).bind (pq fun r2 r2s => (some ((((τ'.1 105) - r1).toInt64) * r2.toInt64, r2s))))) = some ((nI (fl (fun s => ¬ Tk σ np (nI (100 * Y)) s) S).length).toInt64 * u.toInt64, τ1) ∧ Rx τ τ1 := by
      intro m τ' hm hx hb
      obtain ⟨τ1, q1, q2⟩ := w2 τ' hx
      have q1' : Cn_comesTo τ' 4 (-1) (nI (100 * Y)) = some (u, τ1) := q1
      have eb : Jd_bitCount τ' (nI m) = some (nI (cnt10 m)) := bc10 m hm
      refine ⟨τ1, ?_, q2⟩
      rw [eb, bind_so, q1', bind_pq, hx.1 105 (by decide) (by decide) (by decide), s2, eS]
      have e1 : cnt10 m = (fl (Tk σ np (nI (100 * Y))) S).length := by
        rw [cnt10_fl hb]
        refine (perm_of fl_nodup fl_nodup fun s => ?_).length_eq
        rw [fl_mem, fl_mem]
        exact ⟨fun g => ⟨tkS s (by omega) g.2, g.2⟩, fun g => ⟨by omega, g.2⟩⟩
      have e2 := fl_not (S := Tk σ np (nI (100 * Y))) S
      rw [e1, nI_sub (by omega), show S - (fl (Tk σ np (nI (100 * Y))) S).length = (fl (fun s => ¬ Tk σ np (nI (100 * Y)) s) S).length by omega]
    have key : ∀ (m i fu : Nat) (t : Nat), i + m = np → m < fu → t < 1024 → Rx τ τ' → (∀ s, s < 10 → (t.testBit s = true ↔ ∃ p, p < i ∧ M_isMember σ (nI p) (nI (100 * Y)) = some 1 ∧ M_seatOf σ (nI p) (nI (100 * Y)) = some (nI s))) → ∃ τ1, Cn_vacantIn_L10_r fu τ' (nI (100 * Y)) (nI t) (nI i) = some ((nI (fl (fun s => ¬ Tk σ np (nI (100 * Y)) s) S).length).toInt64 * u.toInt64, τ1) ∧ Rx τ τ1 := by
      intro m
      induction m with
      | zero =>
        intro i fu t hi hf ht hx hb
        obtain ⟨f, rfl, -⟩ := fuel hf
        have hi : i = np := by omega
        subst hi
        rw [Cn_vacantIn_L10_r, hx.1 104 (by decide) (by decide) (by decide), h.1.1.2.2.1, if_pos (Int32.le_refl _)]
        exact fin t τ' ht hx hb
      | succ m ih =>
        intro i fu t hi hf ht hx hb
        obtain ⟨f, rfl, hf2⟩ := fuel hf
        have hin : i < np := by omega
        have hi24 : i < 24 := by omega
        obtain ⟨a, l, sg, hmem⟩ := hsg i hin
        have nx := fun t ht hb => ih (i + 1) f t (by omega) (by omega) ht hx hb
        have same : M_isMember σ (nI i) (nI (100 * Y)) ≠ some 1 → ∀ s, s < 10 → (t.testBit s = true ↔ ∃ p, p < i + 1 ∧ M_isMember σ (nI p) (nI (100 * Y)) = some 1 ∧ M_seatOf σ (nI p) (nI (100 * Y)) = some (nI s)) := by
          intro ng s hs
          rw [hb s hs]
          constructor
          · rintro ⟨p, g1, g2⟩
            exact ⟨p, by omega, g2⟩
          · rintro ⟨p, g1, g2⟩
            refine ⟨p, ?_, g2⟩
            rcases Nat.lt_or_eq_of_le (Nat.le_of_lt_succ g1) with q | rfl
            · exact q
            · exact absurd g2.1 ng
        rw [Cn_vacantIn_L10_r, hx.1 104 (by decide) (by decide) (by decide), h.1.1.2.2.1, if_neg (nI_ge (by omega) (by omega)), rd_nI hi24 (by decide), rd_nI hi24 (by decide), hx.2.1 402 (by decide) (by decide), hx.2.1 403 (by decide) (by decide), sg.2.1, sg.2.2.1]
        unfold Cn_vacantIn_J74
        rw [nI_1]
        have l400 := sg.2.2.2.1
        by_cases cl : l.length = 0
        · have hl : l = [] := List.length_eq_zero_iff.mp cl
          obtain ⟨n1, -, -⟩ := h.2.1.noMember hin (nI (100 * Y)) fun e g => by
            have := (hmem e).mpr g
            rw [hl] at this
            exact absurd this List.not_mem_nil
          rw [cl, Nat.add_zero, if_pos (Int32.le_refl _)]
          exact nx t ht (same (by rw [n1]; decide))
        rw [if_neg (nI_ge (by omega) (by omega))]
        obtain ⟨v, v0, v1, -, v3⟩ := h.std hin (nI (100 * Y))
        have v1' : M_isMember σ (nI i) (nI (100 * Y)) = some (if v = 1 then 1 else 0) := v1 σ (Rm.refl σ)
        have v3' : Lv_standing τ' (nI i) (nI (100 * Y)) = some v := v3 τ' hx
        rw [v3', bind_so]
        by_cases cv : v = 1
        case neg =>
          rw [if_neg cv]
          rw [if_neg cv] at v1'
          exact nx t ht (same (by rw [v1']; decide))
        rw [if_pos cv]
        rw [if_pos cv] at v1'
        obtain ⟨s, hs, es⟩ := h.memSeat hin v1'
        rw [eS, nI_i (by omega)] at hs
        have s10 : s < 10 := by omega
        obtain ⟨r, -, r1, r2⟩ := h.seat hin (nI (100 * Y))
        have r1' : M_seatOf σ (nI i) (nI (100 * Y)) = some r := r1 σ (Rm.refl σ)
        have r2' : Lv_seatOf τ' (nI i) (nI (100 * Y)) = some r := r2 τ' hx
        rw [es] at r1'
        rw [r2', ← Option.some.inj r1', bind_so, or10 s s10 t ht]
        have hp2 : (2 : Nat) ^ s < 1024 := Nat.pow_lt_pow_right (by decide) s10
        refine nx (t ||| 2 ^ s) (Nat.or_lt_two_pow (n := 10) ht hp2) fun s' hs' => ?_
        rw [Nat.testBit_or, Bool.or_eq_true, hb s' hs', Nat.testBit_two_pow]
        constructor
        · rintro (⟨p, g1, g2⟩ | g)
          · exact ⟨p, by omega, g2⟩
          · have : s = s' := by simpa using g
            subst this
            exact ⟨i, by omega, v1', es⟩
        · rintro ⟨p, g1, g2, g3⟩
          rcases Nat.lt_or_eq_of_le (Nat.le_of_lt_succ g1) with q | rfl
          · exact Or.inl ⟨p, q, g2, g3⟩
          · rw [es] at g3
            have : s = s' := (nI_eq (by omega) (by omega)).mp (Option.some.inj g3)
            subst this
            exact Or.inr (by simp)
    obtain ⟨τ1, k1, k2⟩ := key np 0 100000 0 (by omega) (by omega) (by omega) hx fun s hs => ⟨fun g => by simp at g, fun ⟨p, g, _⟩ => absurd g (Nat.not_lt_zero _)⟩
    refine ⟨τ1, ?_, k2⟩
    show Cn_vacantIn τ' (nI Y) = _
    unfold Cn_vacantIn Cn_vacantIn_L10
    rw [yd]
    exact k1
end VAC
theorem st22 : St22 (InvA ActI) := by
  intro σ τ xs i h
  have same : InvA ActI σ τ := h
  obtain ⟨np, ne, bl, hP, hB, hM, ha⟩ := h
  generalize xs (i + 1) = p1
  generalize xs (i + 2) = p2
  unfold W_vacant M_vacant
  rw [Bk_isReach_eq hB.2.2.1, M_isBy_eq hB.2.1, W_isYear_eq, M_isYear_eq]
  simp only [bind_so, b01_if]
  by_cases cy : 0 ≤ p1 ∧ p1 ≤ 99
  case neg =>
    rw [if_neg cy, if_neg cy]
    exact ⟨_, _, _, rfl, rfl, same⟩
  rw [if_pos cy, if_pos cy]
  obtain ⟨Y, hY, rfl⟩ := inRn (k := p1) (n := 99) ⟨i32_le.mp cy.1, i32_le.mp cy.2⟩ (by decide)
  by_cases c1 : -1 ≤ p2 ∧ p2 ≤ nI ne
  case neg =>
    rw [if_neg c1, if_neg c1]
    exact ⟨_, _, _, rfl, rfl, same⟩
  rw [if_pos c1, if_pos c1]
  obtain ⟨na, hh, od, cb⟩ := InvA.cb hP hB hM ha
  obtain ⟨K, σl, τl, q1, q2, cv, sM, sX⟩ := cb.read c1
  obtain ⟨v, v1, v2⟩ := cv.vacant (Y := Y) (by omega)
  obtain ⟨σ2, y1, y2⟩ := v1 σl (Rm.refl σl)
  have y1' : M_vacantOf σl (nI Y) = some (v, σ2) := y1
  obtain ⟨τ2, z1, z2⟩ := v2 τl (Rx.refl τl)
  have z1' : Cn_vacantIn τl (nI Y) = some (v, τ2) := z1
  rw [q1, q2, bind_pq, bind_pq, y1', z1', bind_pq, bind_pq]
  exact ⟨_, _, _, rfl, rfl, same.same ActI_stb (sM.trans y2.same) (sX.trans z2.same)⟩
