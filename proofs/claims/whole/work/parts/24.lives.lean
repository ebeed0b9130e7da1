/-! the two views tied: class and reference answer alike about lives -/
/-- an entry is p's own, not a death, and stands (as the reference sees it) -/
def Own (σ : MS) (K p e : Nat) : Prop := e < K ∧ σ.2.1 43 e ≠ 0 ∧ σ.2.1 8 e ≠ 0 ∧ (σ.2.1 9 e = nI p ∨ (σ.2.1 8 e = 1 ∧ σ.2.1 10 e = nI p))
/-- what is told of the entries below K that stand, in the reference's rows -/
def EntW (σ : MS) (K np : Nat) : Prop := ∀ e, e < K → σ.2.1 43 e ≠ 0 → (∃ k, k < 7 ∧ σ.2.1 8 e = nI k) ∧ (∃ q, q < np ∧ σ.2.1 9 e = nI q ∧ (σ.2.1 8 e = 1 → σ.2.1 2 q = 0 ∧ ∃ w, w < np ∧ σ.2.1 10 e = nI w ∧ σ.2.1 2 w = 1)) ∧ 0 ≤ (σ.2.1 11 e).toInt ∧ (σ.2.1 11 e).toInt < 10000
def Vw (σ : MS) (τ : XS) (K np : Nat) : Prop := K ≤ 200 ∧ np ≤ 24 ∧ σ.1 45 = nI K ∧ σ.1 1 = nI np ∧ τ.1 104 = nI np ∧ (τ.2.1 100 = σ.2.1 2 ∧ τ.2.1 101 = σ.2.1 3 ∧ τ.2.1 102 = σ.2.1 4 ∧ τ.2.1 103 = σ.2.1 5 ∧ τ.2.1 107 = σ.2.1 8 ∧ τ.2.1 108 = σ.2.1 9 ∧ τ.2.1 109 = σ.2.1 10 ∧ τ.2.1 110 = σ.2.1 11 ∧ τ.2.1 111 = σ.2.1 12) ∧ (∀ p, p < np → τ.2.1 401 p = σ.2.1 44 p) ∧ EntW σ K np ∧ ∀ p, p < np → ∃ a l, Seg τ p a l ∧ ∀ e, e ∈ l ↔ Own σ K p e
section VW
variable {σ : MS} {τ : XS} {K np : Nat} (h : Vw σ τ K np) {p : Nat} (hp : p < np) (day : Int32)
theorem Vw.lives (h : Vw σ τ K np) {p : Nat} (hp : p < np) (day : Int32) : ∃ v : Int32, (v = 0 ∨ v = 1) ∧ M_lives σ (nI p) day = some v ∧ Lv_livesOn τ (nI p) day = some v := by
  obtain ⟨hK, hnp, -, -, -, ha, hd, -⟩ := h
  have hp24 : p < 24 := by omega
  unfold M_lives Lv_livesOn
  simp only [rd_nI hp24 (show 24 < 2 ^ 31 by decide), ha.2.1, hd p hp]
  by_cases h1 : day < σ.2.1 3 p
  · rw [if_pos h1]; exact ⟨0, Or.inl rfl, rfl, rfl⟩
  rw [if_neg h1]
  by_cases h2 : σ.2.1 44 p ≤ day
  · rw [if_pos h2]; exact ⟨0, Or.inl rfl, rfl, rfl⟩
  · rw [if_neg h2]; exact ⟨1, Or.inr rfl, rfl, rfl⟩
/-- the last entry of some kinds (no deaths, no weddings) -/
theorem Vw.last (h : Vw σ τ K np) {p : Nat} (hp : p < np) (day : Int32) {kinds : Int32} (k0 : ¬ ((kinds >>> ((0 : Int32) &&& 31)) &&& 1) = 1) (k1 : ¬ ((kinds >>> ((1 : Int32) &&& 31)) &&& 1) = 1) : ∃ r, M_lastOf σ (nI p) kinds day = some r ∧ Lv_lastOf τ (nI p) day kinds = some r ∧ (r = -1 ∨ ∃ e, r = nI e ∧ e < K ∧ SLast σ (nI p) kinds day e) := by
  obtain ⟨hK, hnp, hk, -, -, ha, hd, hw, hs⟩ := h
  obtain ⟨a, l, sg, hm⟩ := hs p hp
  obtain ⟨r, e1, e2⟩ := M_lastOf_spec σ hk hK (nI p) kinds day
  obtain ⟨r', e3, e4⟩ := Lv_lastOf_spec sg day kinds
  rw [ha.2.2.2.2.2.2.2.1] at e4
  have e5 : LastP (SLast σ (nI p) kinds day) K (σ.2.1 11) r' := by
    refine e4.toP fun e => ?_
    rw [hm]
    unfold KOk Own SLast
    rw [ha.2.2.2.2.1]
    constructor
    · rintro ⟨⟨g1, g2, g3, g4⟩, g5, g6⟩
      refine ⟨g1, g2, g5, fun g => ?_, ?_, g6⟩
      · rw [g] at g5; exact k1 g5
      · rcases g4 with g4 | ⟨g4, -⟩
        · exact g4
        · rw [g4] at g5; exact absurd g5 k1
    · rintro ⟨g1, g2, g3, g4, g5, g6⟩
      exact ⟨⟨g1, g2, fun g => by rw [g] at g3; exact k0 g3, Or.inl g5⟩, g3, g6⟩
  have e6 := e2.uniq e5
  subst e6
  refine ⟨r, e1, e3, ?_⟩
  rcases e2 with ⟨g, -⟩ | ⟨e, g1, g2, g3, -⟩
  · exact Or.inl g
  · exact Or.inr ⟨e, g2, g1, g3⟩
theorem kind_w {k : Nat} (hk : k < 7) : (((2 : Int32) >>> (nI k &&& 31)) &&& 1) = 1 ↔ nI k = 1 := by
  have : ∀ k, k < 7 → ((((2 : Int32) >>> (nI k &&& 31)) &&& 1) = 1 ↔ nI k = 1) := by decide
  exact this k hk
/-- whose wedding it is, in the class's list and in the reference's rows -/
theorem Vw.wedS (h : Vw σ τ K np) {p a : Nat} {l : List Nat} (day : Int32) (hm : ∀ e, e ∈ l ↔ Own σ K p e) (e : Nat) : (e ∈ l ∧ KOk τ 2 e ∧ τ.2.1 110 e ≤ day) ↔ (e < K ∧ SWed σ (nI p) day e) := by
  obtain ⟨hK, hnp, hk, -, -, ha, hd, hw, hs⟩ := h
  rw [hm]
  unfold KOk Own SWed
  rw [ha.2.2.2.2.1, ha.2.2.2.2.2.2.2.1]
  constructor
  · rintro ⟨⟨g1, g2, g3, g4⟩, g5, g6⟩
    obtain ⟨⟨k, hk7, ek⟩, -⟩ := hw e g1 g2
    rw [ek] at g5
    have e1 := (kind_w hk7).mp g5
    refine ⟨g1, g2, by rw [ek]; exact e1, ?_, g6⟩
    rcases g4 with g | g
    · exact Or.inl g
    · exact Or.inr g.2
  · rintro ⟨g1, g2, g3, g4, g5⟩
    refine ⟨⟨g1, g2, by rw [g3]; decide, ?_⟩, by rw [g3]; decide, g5⟩
    rcases g4 with g | g
    · exact Or.inl g
    · exact Or.inr ⟨g3, g⟩
theorem Vw.lastW (h : Vw σ τ K np) {p : Nat} (hp : p < np) (day : Int32) : ∃ r, M_lastWedding σ (nI p) day = some r ∧ Lv_lastOf τ (nI p) day 2 = some r ∧ (r = -1 ∨ ∃ e, r = nI e ∧ e < K ∧ SWed σ (nI p) day e) := by
  have h' := h
  obtain ⟨hK, hnp, hk, -, -, ha, hd, hw, hs⟩ := h'
  obtain ⟨a, l, sg, hm⟩ := hs p hp
  obtain ⟨r, e1, e2⟩ := M_lastWedding_spec σ hk hK (nI p) day
  obtain ⟨r', e3, e4⟩ := Lv_lastOf_spec sg day 2
  have e5 : LastP (SWed σ (nI p) day) K (σ.2.1 11) r' := by
    have e7 := e4.toP (h.wedS (a := a) day hm)
    rw [ha.2.2.2.2.2.2.2.1] at e7
    exact e7
  have e6 := e2.uniq e5
  subst e6
  refine ⟨r, e1, e3, ?_⟩
  rcases e2 with ⟨g, -⟩ | ⟨e, g1, g2, g3, -⟩
  · exact Or.inl g
  · exact Or.inr ⟨e, g2, g1, g3⟩
theorem Vw.wedN (h : Vw σ τ K np) {p : Nat} (hp : p < np) (day : Int32) : ∃ n, n ≤ 200 ∧ M_weddings σ (nI p) day = some (nI n) ∧ Lv_howMany τ (nI p) day 2 = some (nI n) := by
  have h' := h
  obtain ⟨hK, hnp, hk, -, -, ha, hd, hw, hs⟩ := h'
  obtain ⟨a, l, sg, hm⟩ := hs p hp
  refine ⟨_, Nat.le_trans fl_len hK, M_weddings_spec σ hk hK (nI p) day, ?_⟩
  rw [Lv_howMany_spec sg day 2]
  congr 2
  refine (perm_of (flL_nodup sg.nodup) fl_nodup fun e => ?_).length_eq
  rw [flL_mem, fl_mem]
  exact h.wedS (a := a) day hm e
theorem kind_j {k : Nat} (hk : k < 7) : (((4 : Int32) >>> (nI k &&& 31)) &&& 1) = 1 ↔ nI k = 2 := by
  have : ∀ k, k < 7 → ((((4 : Int32) >>> (nI k &&& 31)) &&& 1) = 1 ↔ nI k = 2) := by decide
  exact this k hk
theorem Vw.joinS (h : Vw σ τ K np) {p a : Nat} {l : List Nat} (day : Int32) (hm : ∀ e, e ∈ l ↔ Own σ K p e) (e : Nat) : (e ∈ l ∧ KOk τ 4 e ∧ τ.2.1 110 e ≤ day) ↔ (e < K ∧ SJoin σ (nI p) day e) := by
  obtain ⟨hK, hnp, hk, -, -, ha, hd, hw, hs⟩ := h
  rw [hm]
  unfold KOk Own SJoin
  rw [ha.2.2.2.2.1, ha.2.2.2.2.2.2.2.1]
  constructor
  · rintro ⟨⟨g1, g2, g3, g4⟩, g5, g6⟩
    obtain ⟨⟨k, hk7, ek⟩, -⟩ := hw e g1 g2
    rw [ek] at g5
    have e1 := (kind_j hk7).mp g5
    refine ⟨g1, g2, by rw [ek]; exact e1, ?_, g6⟩
    rcases g4 with g | g
    · exact g
    · rw [ek, e1] at g; exact absurd g.1 (by decide)
  · rintro ⟨g1, g2, g3, g4, g5⟩
    exact ⟨⟨g1, g2, by rw [g3]; decide, Or.inl g4⟩, by rw [g3]; decide, g5⟩
/-- the first JOINED: the class's entry, the reference's day -/
theorem Vw.first (h : Vw σ τ K np) {p : Nat} (hp : p < np) (day : Int32) : ∃ r, Lv_firstOf τ (nI p) day 4 = some r ∧ ((r = -1 ∧ M_firstJoined σ (nI p) day = some (-1) ∧ ∀ e, e < K → ¬ SJoin σ (nI p) day e) ∨ ∃ e, r = nI e ∧ e < K ∧ SJoin σ (nI p) day e ∧ M_firstJoined σ (nI p) day = some (σ.2.1 11 e)) := by
  have h' := h
  obtain ⟨hK, hnp, hk, -, -, ha, hd, hw, hs⟩ := h'
  obtain ⟨a, l, sg, hm⟩ := hs p hp
  obtain ⟨r, e1, e2⟩ := M_firstJoined_spec σ hk hK (fun i hi g => (hw i hi g).2.2.1) (nI p) day
  obtain ⟨r', e3, e4⟩ := Lv_firstOf_spec sg day 4
  have e5 := e4.toP (h.joinS (a := a) day hm)
  rw [ha.2.2.2.2.2.2.2.1] at e5
  refine ⟨r', e3, ?_⟩
  rcases e5 with ⟨g1, g2⟩ | ⟨i, g1, g2, g3, g4⟩
  · refine Or.inl ⟨g1, ?_, g2⟩
    rcases e2 with ⟨q, -⟩ | ⟨j, q1, q2, -⟩
    · rw [e1, q]
    · exact absurd q2 (g2 j q1)
  · refine Or.inr ⟨i, g2, g1, g3, ?_⟩
    rcases e2 with ⟨-, q⟩ | ⟨j, q1, q2, q3, q4⟩
    · exact absurd g3 (q i g1)
    · rw [e1, q3]
      congr 1
      have a1 := q4 i g1 g3
      have a2 := g4 j q1 q2
      rw [i32_le] at a1
      rw [i32_lt, i32_eq] at a2
      rw [i32_eq]
      omega
/-- last JOINED, as either side asks for it -/
theorem Vw.lastJ (h : Vw σ τ K np) {p : Nat} (hp : p < np) (day : Int32) : ∃ r, M_lastOf σ (nI p) 4 day = some r ∧ Lv_lastOf τ (nI p) day 4 = some r ∧ (r = -1 ∨ ∃ e, r = nI e ∧ e < K ∧ SLast σ (nI p) 4 day e) := h.last hp day (by decide) (by decide)
theorem m1_lt0 : ¬ (0 : Int32) ≤ -1 := by decide
theorem M_lastOf_none {kinds : Int32} (hK : σ.1 45 = nI K) (hK2 : K ≤ 200) {q : Int32} (hn : ∀ e, e < K → ¬ SLast σ q kinds day e) : M_lastOf σ q kinds day = some (-1) := by
  obtain ⟨r, e1, e2⟩ := M_lastOf_spec σ hK hK2 q kinds day
  rcases e2 with ⟨g, -⟩ | ⟨i, g1, -, g3, -⟩
  · rw [e1, g]
  · exact absurd g3 (hn i g1)
/-- 1: a MEMBER, 2: GONE, 0: neither -/
theorem Vw.standing (h : Vw σ τ K np) {p : Nat} (hp : p < np) (day : Int32) : ∃ v : Int32, Lv_standing τ (nI p) day = some v ∧ ((v = 0 ∧ M_isMember σ (nI p) day = some 0 ∧ M_isGone σ (nI p) day = some 0) ∨ (v = 1 ∧ M_isMember σ (nI p) day = some 1 ∧ M_isGone σ (nI p) day = some 0) ∨ (v = 2 ∧ M_isMember σ (nI p) day = some 0 ∧ M_isGone σ (nI p) day = some 1)) := by
  have h' := h
  obtain ⟨hK, hnp, hk, -, -, ha, hd, hw, hs⟩ := h'
  obtain ⟨v, hv, l1, l2⟩ := h.lives hp day
  unfold Lv_standing M_isMember M_isGone
  rw [l1, l2]
  simp only [Option.bind_some]
  rcases hv with rfl | rfl
  · refine ⟨0, rfl, Or.inl ⟨rfl, ?_, ?_⟩⟩ <;> rw [if_pos rfl] <;> rfl
  simp only [if_neg (show ¬ (1 : Int32) = 0 by decide)]
  obtain ⟨r, e1, e2, e3⟩ := h.last hp day (kinds := 52) (by decide) (by decide)
  rw [e1, e2]
  simp only [Option.bind_some, M_isMember_J21, M_isGone_J21]
  rcases e3 with rfl | ⟨e, rfl, he, hse⟩
  · exact ⟨0, by rw [if_neg m1_lt0], Or.inl ⟨rfl, by rw [if_pos rfl], by rw [if_pos rfl]⟩⟩
  have he2 : e < 200 := by omega
  rw [if_pos (nI_le0 (by omega)), if_neg (nI_ne_m1 (by omega)), if_neg (nI_ne_m1 (by omega))]
  rw [rd_nI he2 (by decide), rd_nI he2 (by decide), rd_nI he2 (by decide), ha.2.2.2.2.1]
  by_cases c4 : σ.2.1 8 e = 4
  · rw [if_pos c4, if_pos c4, if_pos c4]
    exact ⟨2, rfl, Or.inr (Or.inr ⟨rfl, rfl, rfl⟩)⟩
  rw [if_neg c4, if_neg c4, if_neg c4]
  obtain ⟨f, f1, f2⟩ := h.first hp day
  obtain ⟨r4, j1, j2, j3⟩ := h.lastJ hp day
  rw [f1, j1]
  simp only [Option.bind_some]
  rcases f2 with ⟨rfl, -, fn⟩ | ⟨e', rfl, he', hj', -⟩
  · rw [if_neg m1_lt0]
    refine ⟨0, rfl, Or.inl ⟨rfl, ?_, trivial⟩⟩
    rcases j3 with rfl | ⟨e'', rfl, he'', hs''⟩
    · rw [if_pos rfl]
    · exfalso
      obtain ⟨⟨k, hk7, ek⟩, -⟩ := hw e'' he'' hs''.1
      have g := hs''.2.1
      rw [ek] at g
      exact fn e'' he'' ⟨hs''.1, by rw [ek]; exact (kind_j hk7).mp g, hs''.2.2.2.1, hs''.2.2.2.2⟩
  · rw [if_pos (nI_le0 (by omega))]
    refine ⟨1, rfl, Or.inr (Or.inl ⟨rfl, ?_, trivial⟩)⟩
    rcases j3 with rfl | ⟨e'', rfl, he'', -⟩
    · exfalso
      obtain ⟨r, q1, q2⟩ := M_lastOf_spec σ hk hK (nI p) 4 day
      rw [j1] at q1
      cases q1
      rcases q2 with ⟨-, q⟩ | ⟨i, g1, g2, -⟩
      · exact q e' he' ⟨hj'.1, by rw [hj'.2.1]; decide, by rw [hj'.2.1]; decide, hj'.2.2.1, hj'.2.2.2⟩
      · exact nI_ne_m1 (by omega) g2.symm
    · rw [if_neg (nI_ne_m1 (by omega))]
theorem Vw.seat (h : Vw σ τ K np) {p : Nat} (hp : p < np) (day : Int32) : ∃ v, M_seatOf σ (nI p) day = some v ∧ Lv_seatOf τ (nI p) day = some v ∧ (v = -1 ∨ ∃ e, e < K ∧ SLast σ (nI p) 4 day e ∧ v = σ.2.1 10 e) := by
  have h' := h
  obtain ⟨hK, hnp, hk, -, -, ha, hd, hw, hs⟩ := h'
  obtain ⟨r, j1, j2, j3⟩ := h.lastJ hp day
  unfold M_seatOf Lv_seatOf
  rw [j1, j2]
  simp only [Option.bind_some]
  rcases j3 with rfl | ⟨e, rfl, he, hs'⟩
  · exact ⟨-1, by rw [if_pos rfl], by rw [if_neg m1_lt0], Or.inl rfl⟩
  · refine ⟨σ.2.1 10 e, ?_, ?_, Or.inr ⟨e, he, hs', rfl⟩⟩
    · rw [if_neg (nI_ne_m1 (by omega)), rd_nI (show e < 200 by omega) (by decide)]
    · rw [if_pos (nI_le0 (by omega)), rd_nI (show e < 200 by omega) (by decide), ha.2.2.2.2.2.2.1]
theorem Vw.rate (h : Vw σ τ K np) {p : Nat} (hp : p < np) (day : Int32) : ∃ v, M_rateAt σ (nI p) day = some v ∧ Lv_rateOf τ (nI p) day = some v ∧ (v = -1 ∨ ∃ e, e < K ∧ SLast σ (nI p) 12 day e ∧ v = if σ.2.1 8 e = 2 then σ.2.1 12 e else σ.2.1 10 e) := by
  have h' := h
  obtain ⟨hK, hnp, hk, -, -, ha, hd, hw, hs⟩ := h'
  obtain ⟨r, j1, j2, j3⟩ := h.last hp day (kinds := 12) (by decide) (by decide)
  unfold M_rateAt Lv_rateOf
  rw [j1, j2]
  simp only [Option.bind_some]
  rcases j3 with rfl | ⟨e, rfl, he, hs'⟩
  · exact ⟨-1, by rw [if_pos rfl], by rw [if_neg m1_lt0], Or.inl rfl⟩
  · have he2 : e < 200 := by omega
    refine ⟨if σ.2.1 8 e = 2 then σ.2.1 12 e else σ.2.1 10 e, ?_, ?_, Or.inr ⟨e, he, hs', rfl⟩⟩
    · rw [if_neg (nI_ne_m1 (by omega)), rd_nI he2 (by decide), rd_nI he2 (by decide), rd_nI he2 (by decide)]
      by_cases c : σ.2.1 8 e = 2
      · rw [if_pos c, if_pos c]
      · rw [if_neg c, if_neg c]
    · rw [if_pos (nI_le0 (by omega)), rd_nI he2 (by decide), rd_nI he2 (by decide), rd_nI he2 (by decide), ha.2.2.2.2.1, ha.2.2.2.2.2.2.1, ha.2.2.2.2.2.2.2.2]
      by_cases c : σ.2.1 8 e = 2
      · rw [if_pos c, if_pos c]
      · rw [if_neg c, if_neg c]
theorem Vw.wedTo (h : Vw σ τ K np) {p : Nat} (hp : p < np) (day : Int32) : ∃ v, M_wedTo σ (nI p) day = some v ∧ Lv_wedTo τ (nI p) day = some v ∧ (v = -1 ∨ ∃ q, q < np ∧ v = nI q) := by
  have h' := h
  obtain ⟨hK, hnp, hk, -, -, ha, hd, hw, hs⟩ := h'
  obtain ⟨r, j1, j2, j3⟩ := h.lastW hp day
  obtain ⟨v, hv, l1, l2⟩ := h.lives hp day
  unfold M_wedTo Lv_wedTo
  rw [j1, j2]
  simp only [Option.bind_some, Lv_wedTo_J48]
  rcases j3 with rfl | ⟨e, rfl, he, hs'⟩
  · exact ⟨-1, by rw [if_pos rfl], by rw [if_neg m1_lt0], Or.inl rfl⟩
  have he2 : e < 200 := by omega
  rw [if_neg (nI_ne_m1 (by omega)), if_pos (nI_le0 (by omega)), l1, l2]
  simp only [Option.bind_some, M_mateIn, rd_nI he2 (show 200 < 2 ^ 31 by decide), ha.2.2.2.2.2.1, ha.2.2.2.2.2.2.1]
  obtain ⟨-, ⟨q, hq, eq, hw1⟩, -⟩ := hw e he hs'.1
  obtain ⟨-, w, hww, ew, -⟩ := hw1 hs'.2.1
  rcases hv with rfl | rfl
  · simp only [if_true]
    refine ⟨-1, rfl, ?_, Or.inl rfl⟩
    split <;> rfl
  simp only [if_neg (show ¬ (1 : Int32) = 0 by decide)]
  have fin : ∀ x, x < np → ∃ v, ((M_lives σ (nI x) day).bind fun r4 => if r4 = 0 then some (-1) else some (nI x)) = some v ∧ ((Lv_livesOn τ (nI x) day).bind fun r5 => if r5 = 0 then some (-1) else some (nI x)) = some v ∧ (v = -1 ∨ ∃ q, q < np ∧ v = nI q) := by
    intro x hx
    obtain ⟨u, hu, u1, u2⟩ := h.lives hx day
    rw [u1, u2]
    simp only [Option.bind_some]
    rcases hu with rfl | rfl
    · exact ⟨-1, rfl, rfl, Or.inl rfl⟩
    · exact ⟨nI x, rfl, rfl, Or.inr ⟨x, hx, rfl⟩⟩
  by_cases c : σ.2.1 9 e = nI p
  · simp only [if_pos c, Option.bind_some]
    rw [ew]; exact fin w hww
  · simp only [if_neg c, Option.bind_some]
    rw [eq]; exact fin q hq
theorem Vw.noMember (h : Vw σ τ K np) {p : Nat} (hp : p < np) (day : Int32) (hn : ∀ e, ¬ Own σ K p e) : M_isMember σ (nI p) day = some 0 ∧ M_isGone σ (nI p) day = some 0 ∧ Lv_standing τ (nI p) day = some 0 := by
  have h' := h
  obtain ⟨hK, hnp, hk, -, -, ha, hd, hw, hs⟩ := h'
  have hl : M_lastOf σ (nI p) 52 day = some (-1) := M_lastOf_none day hk hK fun e he g => hn e ⟨he, g.1, fun g0 => by have := g.2.1; rw [g0] at this; exact absurd this (by decide), Or.inl g.2.2.2.1⟩
  have m0 : M_isMember σ (nI p) day = some 0 := by
    obtain ⟨v, hv, l1, -⟩ := h.lives hp day
    unfold M_isMember
    rw [l1, hl]
    simp only [Option.bind_some, M_isMember_J21]
    rcases hv with rfl | rfl <;> simp
  have g0 : M_isGone σ (nI p) day = some 0 := by
    obtain ⟨v, hv, l1, -⟩ := h.lives hp day
    unfold M_isGone
    rw [l1, hl]
    simp only [Option.bind_some, M_isGone_J21]
    rcases hv with rfl | rfl <;> simp
  refine ⟨m0, g0, ?_⟩
  obtain ⟨v, s1, s2 | s2 | s2⟩ := h.standing hp day
  · rw [s1, s2.1]
  · rw [m0] at s2; exact absurd s2.2.1 (by simp)
  · rw [g0] at s2; exact absurd s2.2.2 (by simp)
/-- whether a MEMBER has the seat -/
theorem Vw.taken (h : Vw σ τ K np) (seat day : Int32) : ∃ v : Int32, (v = 0 ∨ v = 1) ∧ M_isSeated σ seat day = some v ∧ Lv_isTaken τ seat day = some v ∧ (v = 1 ↔ ∃ p, p < np ∧ M_isMember σ (nI p) day = some 1 ∧ M_seatOf σ (nI p) day = some seat) := by
  have h' := h
  obtain ⟨hK, hnp, hk, hnp1, hnp2, ha, hd, hw, hs⟩ := h'
  have key : ∀ (m i fu fu' : Nat), i + m = np → m < fu → m < fu' → (∀ p, p < i → ¬ (M_isMember σ (nI p) day = some 1 ∧ M_seatOf σ (nI p) day = some seat)) → ∃ v : Int32, (v = 0 ∨ v = 1) ∧ M_isSeated_L5_r σ fu seat day 0 (nI i) = some v ∧ Lv_isTaken_L2_r τ fu' seat day (nI i) = some v ∧ (v = 1 ↔ ∃ p, p < np ∧ M_isMember σ (nI p) day = some 1 ∧ M_seatOf σ (nI p) day = some seat) := by
    intro m
    induction m with
    | zero =>
      intro i fu fu' hi hf hf' hn
      obtain ⟨f, rfl, -⟩ := fuel hf
      obtain ⟨f', rfl, -⟩ := fuel hf'
      have hi : i = np := by omega
      subst hi
      refine ⟨0, Or.inl rfl, ?_, ?_, ⟨fun g => absurd g (by decide), fun ⟨p, hp, g⟩ => absurd g (hn p hp)⟩⟩
      · rw [M_isSeated_L5_r, hnp1, if_pos (Int32.le_refl _), bz_0]
      · rw [Lv_isTaken_L2_r, hnp2, if_pos (Int32.le_refl _)]
    | succ m ih =>
      intro i fu fu' hi hf hf' hn
      obtain ⟨f, rfl, hf2⟩ := fuel hf
      obtain ⟨f', rfl, hf2'⟩ := fuel hf'
      have hi24 : i < 24 := by omega
      have hin : i < np := by omega
      obtain ⟨a, l, sg, hm⟩ := hs i hin
      have nx := fun hh => ih (i + 1) f f' (by omega) (by omega) (by omega) hh
      rw [← nI_1] at nx
      have ext : ¬ (M_isMember σ (nI i) day = some 1 ∧ M_seatOf σ (nI i) day = some seat) → ∀ p, p < i + 1 → ¬ (M_isMember σ (nI p) day = some 1 ∧ M_seatOf σ (nI p) day = some seat) := fun g p hp => by
        rcases Nat.lt_or_eq_of_le (Nat.le_of_lt_succ hp) with q | rfl
        · exact hn p q
        · exact g
      obtain ⟨w, w1, w2, -⟩ := h.seat hin day
      rw [M_isSeated_L5_r, hnp1, if_neg (nI_ge (by omega) (by omega)), if_pos rfl, Lv_isTaken_L2_r, hnp2, if_neg (nI_ge (by omega) (by omega)), rd_nI hi24 (by decide), rd_nI hi24 (by decide), sg.2.1, sg.2.2.1]
      simp only [M_isSeated_J43, M_isSeated_J44, Lv_isTaken_J50]
      by_cases c : l.length = 0
      · have hl : l = [] := List.length_eq_zero_iff.mp c
        have ho : ∀ e, ¬ Own σ K i e := fun e g => by have := (hm e).mpr g; rw [hl] at this; exact absurd this List.not_mem_nil
        obtain ⟨n1, -, -⟩ := h.noMember hin day ho
        rw [c, Nat.add_zero, if_pos (Int32.le_refl _), n1]
        simp only [Option.bind_some, if_true]
        exact nx (ext fun g => by rw [n1] at g; exact absurd g.1 (by simp))
      rw [if_neg (nI_ge (by omega) (by have := sg.2.2.2.1; omega)), w1, w2]
      obtain ⟨v, s1, s2⟩ := h.standing hin day
      rw [s1]
      simp only [Option.bind_some]
      by_cases cw : w = seat
      · subst cw
        simp only [if_true]
        rcases s2 with ⟨rfl, m1, -⟩ | ⟨rfl, m1, -⟩ | ⟨rfl, m1, -⟩
        · rw [m1, if_neg (by decide)]
          exact nx (ext fun g => by rw [m1] at g; exact absurd g.1 (by simp))
        · rw [m1]
          simp only [Option.bind_some, if_neg (show ¬ (1 : Int32) = 0 by decide), if_true]
          refine ⟨1, Or.inr rfl, ?_, rfl, ⟨fun _ => ⟨i, hin, m1, w1⟩, fun _ => rfl⟩⟩
          obtain ⟨f2, rfl, -⟩ := fuel (show 0 < f by omega)
          rw [M_isSeated_L5_r, hnp1]
          by_cases e : nI np ≤ nI i + 1
          · rw [if_pos e, bz_1]
          · rw [if_neg e, if_neg (by decide), bz_1]
        · rw [m1, if_neg (by decide)]
          exact nx (ext fun g => by rw [m1] at g; exact absurd g.1 (by simp))
      · rw [if_neg cw]
        have nn := nx (ext fun g => by rw [w1] at g; exact cw (Option.some.inj g.2))
        rcases s2 with ⟨rfl, m1, -⟩ | ⟨rfl, m1, -⟩ | ⟨rfl, m1, -⟩ <;> rw [m1] <;> simp only [Option.bind_some, if_neg cw, if_true, if_neg (show ¬ (1 : Int32) = 0 by decide)] <;> exact nn
  exact key np 0 100000 100000 (by omega) (by omega) (by omega) (fun p hp => absurd hp (Nat.not_lt_zero _))
/-- what was paid in a year -/
theorem Vw.paid (h : Vw σ τ K np) {p : Nat} (hp : p < np) (year : Int32) : ∃ l : List Nat, l.Nodup ∧ (∀ e, e ∈ l ↔ e < K ∧ SPaid σ (nI p) year e) ∧ M_paidBy σ (nI p) year = some (Int32.ofInt (sumL (fun e => (σ.2.1 10 e).toInt) l)) ∧ Lv_paidIn τ (nI p) year = some (Int64.ofInt (sumL (fun e => (σ.2.1 10 e).toInt) l)) := by
  have h' := h
  obtain ⟨hK, hnp, hk, -, -, ha, hd, hw, hs⟩ := h'
  obtain ⟨a, l, sg, hm⟩ := hs p hp
  refine ⟨fl (SPaid σ (nI p) year) K, fl_nodup, fun e => fl_mem, M_paidBy_spec σ hk hK (nI p) year, ?_⟩
  rw [Lv_paidIn_spec sg year, ha.2.2.2.2.2.2.1]
  congr 2
  refine sumL_perm (perm_of (flL_nodup sg.nodup) fl_nodup fun e => ?_)
  rw [flL_mem, fl_mem, hm]
  unfold PaidC Own SPaid
  rw [ha.2.2.2.2.1, ha.2.2.2.2.2.2.2.1]
  constructor
  · rintro ⟨⟨g1, g2, g3, g4⟩, g5, g6⟩
    refine ⟨g1, g2, g5, ?_, g6⟩
    rcases g4 with g | g
    · exact g
    · rw [g5] at g; exact absurd g.1 (by decide)
  · rintro ⟨g1, g2, g3, g4, g5⟩
    exact ⟨⟨g1, g2, by rw [g3]; decide, Or.inl g4⟩, g3, g5⟩
end VW
