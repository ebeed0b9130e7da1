/-! widows, and the kinds of lives: as, part -/
section KINDS
variable {σ σ' : MS} {τ τ' : XS} {K np ne na : Nat} {bl od : List Nat} {hh : Nat → Nat}
theorem n10 : ¬ (1 : Int32) = 0 := by decide
theorem CK.widow (h : CK σ τ K np ne bl na hh od) {p : Nat} (hp : p < np) {d : Int32} (hd : d.toInt ≤ 9999) : ∃ r : Int32, (r = -1 ∨ ((∃ m, m < np ∧ r = nI m ∧ σ.2.1 2 m = 0 ∧ σ.2.1 44 m ≠ 10000 ∧ (σ.2.1 44 m).toInt ≤ d.toInt) ∧ σ.2.1 2 p = 1 ∧ ∃ e, Own σ K p e)) ∧ QM σ (fun s => M_widowOf s (nI p) d) r ∧ UX τ (fun t => Cn_deadHusband t (nI p) d) r := by
  have h24 : p < 24 := by have := h.1.1.1.1; omega
  have isW : ∀ τ', Rx τ τ' → Bk_isWoman τ' (nI p) = some (b01 (σ.2.1 2 p = 1)) := fun τ' hx => Bk_isWoman_nI (h.1.1.1.same SameM.rfl hx.same) hp
  by_cases c1 : σ.2.1 2 p = 1
  case neg =>
    refine ⟨-1, Or.inl rfl, fun σ' hm => ⟨σ', ?_, hm⟩, fun τ' hx => ?_⟩
    · show M_widowOf σ' (nI p) d = _
      unfold M_widowOf M_widowOf_J28 M_widowOf_J29
      rw [rd_nI h24 (by decide), hm.2.1 2 (by decide), if_neg c1, if_pos rfl]
    · show Cn_deadHusband τ' (nI p) d = _
      unfold Cn_deadHusband
      rw [isW τ' hx, bind_so, b01_if, if_neg c1]
  obtain ⟨v, hv, l1, l2⟩ := h.1.lives hp d
  have sM : ∀ σ', Rm σ σ' → M_widowOf σ' (nI p) d = if v = 0 then some (-1, σ') else (M_lastWedding σ' (nI p) d).bind fun r7 => M_widowOf_J29 σ' (nI p) d r7 := by
    intro σ' hm
    have l1' : M_lives σ' (nI p) d = some v := l1 σ' hm
    unfold M_widowOf M_widowOf_J28
    rw [rd_nI h24 (by decide), hm.2.1 2 (by decide), if_pos c1, l1', bind_so]
    rfl
  have sX : ∀ τ', Rx τ τ' → Cn_deadHusband τ' (nI p) d = if v = 0 then some (-1) else (Lv_lastOf τ' (nI p) d 2).bind fun r3 => (if 0 ≤ r3 then rd (τ'.2.1 108) 200 r3 fun v4 => rd (τ'.2.1 401) 24 v4 fun v5 => if d < v5 then some (-1) else rd (τ'.2.1 206) 24 v4 fun v6 => if v6 = 0 then some (-1) else some v4 else some (-1)) := by
    intro τ' hx
    have l2' : Lv_livesOn τ' (nI p) d = some v := l2 τ' hx
    unfold Cn_deadHusband
    rw [isW τ' hx, bind_so, b01_if, if_pos c1, l2', bind_so]
  rcases hv with rfl | rfl
  · refine ⟨-1, Or.inl rfl, fun σ' hm => ⟨σ', ?_, hm⟩, fun τ' hx => ?_⟩
    · show M_widowOf σ' (nI p) d = _
      rw [sM σ' hm, if_pos rfl]
    · show Cn_deadHusband τ' (nI p) d = _
      rw [sX τ' hx, if_pos rfl]
  obtain ⟨r, hr, w1, w2⟩ := h.1.lastW hp d
  have w1' : ∀ σ', Rm σ σ' → M_lastWedding σ' (nI p) d = some r := w1
  have w2' : ∀ τ', Rx τ τ' → Lv_lastOf τ' (nI p) d 2 = some r := w2
  rcases hr with rfl | ⟨e, rfl, he, hs'⟩
  · refine ⟨-1, Or.inl rfl, fun σ' hm => ⟨σ', ?_, hm⟩, fun τ' hx => ?_⟩
    · show M_widowOf σ' (nI p) d = _
      rw [sM σ' hm, if_neg n10, w1' σ' hm, bind_so]
      unfold M_widowOf_J29
      rw [if_pos rfl]
    · show Cn_deadHusband τ' (nI p) d = _
      rw [sX τ' hx, if_neg n10, w2' τ' hx, bind_so, if_neg m1_lt0]
  obtain ⟨hK, hnp, hk, -, -, ha, hdd, hw, hs⟩ := h.1.2.1
  have he2 : e < 200 := by omega
  obtain ⟨-, ⟨q, hq, eq, hw1⟩, -⟩ := hw e he hs'.1
  obtain ⟨sq, -⟩ := hw1 hs'.2.1
  have hq24 : q < 24 := by omega
  have qp : ¬ nI q = nI p := fun g => by
    have := (nI_eq (by omega) (by omega)).mp g
    subst this
    rw [sq] at c1
    exact absurd c1 (by decide)
  have tM : ∀ σ', Rm σ σ' → M_widowOf σ' (nI p) d = if d < σ.2.1 44 q then some (-1, σ') else (M_counted σ' (nI q) (σ.2.1 44 q - 1)).bind (pq fun r5 r5s => if r5 = 0 then some (-1, r5s) else some (nI q, r5s)) := by
    intro σ' hm
    rw [sM σ' hm, if_neg n10, w1' σ' hm, bind_so]
    unfold M_widowOf_J29 M_mateIn
    rw [if_neg (nI_ne_m1 (by omega)), rd_nI he2 (by decide), hm.2.1 9 (by decide), eq, if_neg qp, rd_nI he2 (by decide), eq, bind_so, rd_nI hq24 (by decide), rd_nI hq24 (by decide), hm.2.1 44 (by decide)]
  have tX : ∀ τ', Rx τ τ' → Cn_deadHusband τ' (nI p) d = if d < σ.2.1 44 q then some (-1) else if τ.2.1 206 q = 0 then some (-1) else some (nI q) := by
    intro τ' hx
    rw [sX τ' hx, if_neg n10, w2' τ' hx, bind_so, if_pos (nI_le0 (by omega)), rd_nI he2 (by decide), hx.2.1 108 (by decide) (by decide), ha.2.2.2.2.2.1, eq, rd_nI hq24 (by decide), rd_nI hq24 (by decide), hx.2.1 401 (by decide) (by decide), hdd q hq, hx.2.1 206 (by decide) (by decide)]
  by_cases c2 : d < σ.2.1 44 q
  · refine ⟨-1, Or.inl rfl, fun σ' hm => ⟨σ', ?_, hm⟩, fun τ' hx => ?_⟩
    · show M_widowOf σ' (nI p) d = _
      rw [tM σ' hm, if_pos c2]
    · show Cn_deadHusband τ' (nI p) d = _
      rw [tX τ' hx, if_pos c2]
  have c2' : (σ.2.1 44 q).toInt ≤ d.toInt := by rw [i32_lt] at c2; omega
  have n4 : σ.2.1 44 q ≠ 10000 := fun g => by
    rw [g, show (10000 : Int32).toInt = 10000 from rfl] at c2'
    omega
  obtain ⟨k1, k2⟩ := h.2 q hq n4
  refine ⟨if τ.2.1 206 q = 0 then -1 else nI q, ?_, fun σ' hm => ?_, fun τ' hx => ?_⟩
  · by_cases c3 : τ.2.1 206 q = 0
    · rw [if_pos c3]; exact Or.inl rfl
    · rw [if_neg c3]; exact Or.inr ⟨⟨q, hq, rfl, sq, n4, c2'⟩, c1, e, he, hs'.1, by rw [hs'.2.1]; decide, hs'.2.2.1.elim Or.inl fun g => Or.inr ⟨hs'.2.1, g⟩⟩
  · obtain ⟨σ1, z1, z2⟩ := k2 σ' hm
    have z1' : M_counted σ' (nI q) (σ.2.1 44 q - 1) = some (τ.2.1 206 q, σ1) := z1
    refine ⟨σ1, ?_, z2⟩
    show M_widowOf σ' (nI p) d = _
    rw [tM σ' hm, if_neg c2, z1', bind_pq]
    by_cases c3 : τ.2.1 206 q = 0
    · rw [if_pos c3, if_pos c3]
    · rw [if_neg c3, if_neg c3]
  · show Cn_deadHusband τ' (nI p) d = _
    rw [tX τ' hx, if_neg c2]
    by_cases c3 : τ.2.1 206 q = 0
    · rw [if_pos c3, if_pos c3]
    · rw [if_neg c3, if_neg c3]
theorem M_age_m1 (h : CV σ τ K np ne bl na hh od) {p : Nat} (hp : p < np) : M_ageOf σ (nI p) (-1) = some 0 := by
  have h24 : p < 24 := by have := h.1.1.1; omega
  have hb := (h.1.1.2.2.2.2.2.2.2 p hp).2.1
  unfold DayOk at hb
  unfold M_ageOf
  rw [rd_nI h24 (by decide), if_neg]
  rw [i32_le, lit_m1]; omega
/-- the kind, where there is a life -/
theorem CK.kind (h : CK σ τ K np ne bl na hh od) {p : Nat} (hp : p < np) {d : Int32} (hd : DayOk d) : ∃ k : Int32, InR k 0 6 ∧ (UM σ (fun s => M_lives s (nI p) d) 1 → QM σ (fun s => M_kindOf s (nI p) d) k ∧ QX τ (fun t => Cn_kindOf t (nI p) d) k) ∧ (UM σ (fun s => M_lives s (nI p) d) 0 → QX τ (fun t => Cn_kindOf t (nI p) d) (-5)) := by
  have h24 : p < 24 := by have := h.1.1.1.1; omega
  have hd1 : -1 ≤ d.toInt ∧ d.toInt ≤ 10000 := by unfold DayOk at hd; omega
  have hd2 : d.toInt ≤ 9999 := by unfold DayOk at hd; omega
  obtain ⟨v, hv, l1, l2⟩ := h.1.lives hp d
  have l2' : ∀ τ', Rx τ τ' → Lv_livesOn τ' (nI p) d = some v := l2
  rcases hv with rfl | rfl
  · refine ⟨0, ⟨by decide, by decide⟩, fun g => absurd (l1.uniq g) (by decide), fun _ τ' hx => ⟨τ', ?_, hx⟩⟩
    show Cn_kindOf τ' (nI p) d = _
    unfold Cn_kindOf
    rw [l2' τ' hx, bind_so, if_pos rfl]
  suffices hsuf : ∃ k : Int32, InR k 0 6 ∧ QM σ (fun s => M_kindOf s (nI p) d) k ∧ QX τ (fun t => Cn_kindOf t (nI p) d) k by
    obtain ⟨k, a1, a2⟩ := hsuf
    exact ⟨k, a1, fun _ => a2, fun g => absurd (l1.uniq g) (by decide)⟩
  obtain ⟨s, hs, s1, s2, s3⟩ := h.1.std hp d
  have s1' : ∀ σ', Rm σ σ' → M_isMember σ' (nI p) d = some (if s = 1 then 1 else 0) := s1
  have s2' : ∀ σ', Rm σ σ' → M_isGone σ' (nI p) d = some (if s = 2 then 1 else 0) := s2
  have s3' : ∀ τ', Rx τ τ' → Lv_standing τ' (nI p) d = some s := s3
  have n01 : ¬ (0 : Int32) = 1 := by decide
  have n02 : ¬ (0 : Int32) = 2 := by decide
  have n12 : ¬ (1 : Int32) = 2 := by decide
  have n21 : ¬ (2 : Int32) = 1 := by decide
  rcases hs with rfl | rfl | rfl
  · -- neither a member nor gone
    obtain ⟨r, hr, w1, w2⟩ := h.widow hp hd2
    have w2' : ∀ τ', Rx τ τ' → Cn_deadHusband τ' (nI p) d = some r := w2
    have bM : ∀ σ', Rm σ σ' → ∃ σ1, Rm σ σ1 ∧ M_kindOf σ' (nI p) d = (if r = -1 then rd (σ1.2.1 4) 24 (nI p) fun v4 => if v4 = -1 then M_kindOf_J138 σ1 else rd (σ1.2.1 44) 24 v4 fun v5 => if d < v5 then M_kindOf_J138 σ1 else rd (σ1.2.1 44) 24 v4 fun v6 => (M_counted σ1 v4 (v6 - 1)).bind (pq fun r7 r7s => (if r7 = 0 then M_kindOf_J138 r7s else (M_ageOf r7s (nI p) d).bind fun r8 => ((M_ruled r7s 7 (-1) d d).bind (pq fun r9 r9s => (if r9 ≤ r8 then M_kindOf_J138 r9s else M_kindOf_J139 r9s 1))))) else some (4, σ1)) := by
      intro σ' hm
      obtain ⟨σ1, q1, q2⟩ := w1 σ' hm
      have q1' : M_widowOf σ' (nI p) d = some (r, σ1) := q1
      refine ⟨σ1, q2, ?_⟩
      unfold M_kindOf
      rw [s1' σ' hm, bind_so, if_neg n01, if_pos rfl, s2' σ' hm, bind_so, if_neg n02, if_pos rfl, q1', bind_pq]
    have bX : ∀ τ', Rx τ τ' → Cn_kindOf τ' (nI p) d = (if r = -1 then rd (τ'.2.1 102) 24 (nI p) fun v4 => if v4 < 0 then Cn_kindOf_J125 τ' (nI p) d else rd (τ'.2.1 401) 24 v4 fun v7 => if d < v7 then Cn_kindOf_J125 τ' (nI p) d else rd (τ'.2.1 206) 24 v4 fun v8 => if v8 = 0 then Cn_kindOf_J125 τ' (nI p) d else Cn_kindOf_J126 τ' (nI p) d 1 else some (4, τ')) := by
      intro τ' hx
      unfold Cn_kindOf
      rw [l2' τ' hx, bind_so, if_neg n10, s3' τ' hx, bind_so, if_neg n02, if_neg n01, w2' τ' hx, bind_so]
    by_cases cr : r = -1
    case neg =>
      refine ⟨4, ⟨by decide, by decide⟩, fun σ' hm => ?_, fun τ' hx => ⟨τ', ?_, hx⟩⟩
      · obtain ⟨σ1, q1, q2⟩ := bM σ' hm
        exact ⟨σ1, by show M_kindOf σ' (nI p) d = _; rw [q2, if_neg cr], q1⟩
      · show Cn_kindOf τ' (nI p) d = _
        rw [bX τ' hx, if_neg cr]
    have j0 : ∀ τ', Cn_kindOf_J125 τ' (nI p) d = some (0, τ') := fun τ' => by
      unfold Cn_kindOf_J125 Cn_kindOf_J126
      rw [if_pos rfl]
    have m0 : ∀ σ', M_kindOf_J138 σ' = some (0, σ') := fun σ' => by
      unfold M_kindOf_J138 M_kindOf_J139
      rw [if_pos rfl]
    have e4 : ∀ σ1, Rm σ σ1 → σ1.2.1 4 = σ.2.1 4 := fun σ1 k => k.2.1 4 (by decide)
    have e44 : ∀ σ1, Rm σ σ1 → σ1.2.1 44 = σ.2.1 44 := fun σ1 k => k.2.1 44 (by decide)
    have e102 : ∀ τ', Rx τ τ' → τ'.2.1 102 = σ.2.1 4 := fun τ' k => (k.2.1 102 (by decide) (by decide)).trans h.1.1.1.2.2.2.2.2.1
    have e206 : ∀ τ', Rx τ τ' → τ'.2.1 206 = τ.2.1 206 := fun τ' k => k.2.1 206 (by decide) (by decide)
    rcases (h.1.1.1.2.2.2.2.2.2.2 p hp).2.2.1 with g | ⟨q, hq, g, -⟩
    · refine ⟨0, ⟨by decide, by decide⟩, fun σ' hm => ?_, fun τ' hx => ⟨τ', ?_, hx⟩⟩
      · obtain ⟨σ1, q1, q2⟩ := bM σ' hm
        refine ⟨σ1, ?_, q1⟩
        show M_kindOf σ' (nI p) d = _
        rw [q2, if_pos cr, rd_nI h24 (by decide), e4 σ1 q1, g, if_pos rfl, m0]
      · show Cn_kindOf τ' (nI p) d = _
        rw [bX τ' hx, if_pos cr, rd_nI h24 (by decide), e102 τ' hx, g, if_pos (by decide), j0]
    have hq24 : q < 24 := by have := h.1.1.1.1; omega
    have e401 : ∀ τ', Rx τ τ' → τ'.2.1 401 q = σ.2.1 44 q := fun τ' k => by
      rw [k.2.1 401 (by decide) (by decide)]
      exact h.1.2.1.2.2.2.2.2.2.1 q hq
    by_cases c2 : d < σ.2.1 44 q
    · refine ⟨0, ⟨by decide, by decide⟩, fun σ' hm => ?_, fun τ' hx => ⟨τ', ?_, hx⟩⟩
      · obtain ⟨σ1, q1, q2⟩ := bM σ' hm
        refine ⟨σ1, ?_, q1⟩
        show M_kindOf σ' (nI p) d = _
        rw [q2, if_pos cr, rd_nI h24 (by decide), e4 σ1 q1, g, if_neg (nI_ne_m1 (by omega)), rd_nI hq24 (by decide), e44 σ1 q1, if_pos c2, m0]
      · show Cn_kindOf τ' (nI p) d = _
        rw [bX τ' hx, if_pos cr, rd_nI h24 (by decide), e102 τ' hx, g, if_neg (nI_not_lt0 (by omega)), rd_nI hq24 (by decide), e401 τ' hx, if_pos c2, j0]
    have c2' : (σ.2.1 44 q).toInt ≤ d.toInt := by rw [i32_lt] at c2; omega
    have n4 : σ.2.1 44 q ≠ 10000 := fun g => by
      rw [g, show (10000 : Int32).toInt = 10000 from rfl] at c2'
      omega
    obtain ⟨k1, k2⟩ := h.2 q hq n4
    have aM : ∀ σ', Rm σ σ' → ∃ σ1, Rm σ σ1 ∧ M_kindOf σ' (nI p) d = (if τ.2.1 206 q = 0 then M_kindOf_J138 σ1 else (M_ageOf σ1 (nI p) d).bind fun r8 => ((M_ruled σ1 7 (-1) d d).bind (pq fun r9 r9s => (if r9 ≤ r8 then M_kindOf_J138 r9s else M_kindOf_J139 r9s 1)))) := by
      intro σ' hm
      obtain ⟨σ1, q1, q2⟩ := bM σ' hm
      obtain ⟨σ2, z1, z2⟩ := k2 σ1 q1
      have z1' : M_counted σ1 (nI q) (σ.2.1 44 q - 1) = some (τ.2.1 206 q, σ2) := z1
      refine ⟨σ2, z2, ?_⟩
      rw [q2, if_pos cr, rd_nI h24 (by decide), e4 σ1 q1, g, if_neg (nI_ne_m1 (by omega)), rd_nI hq24 (by decide), rd_nI hq24 (by decide), e44 σ1 q1, if_neg c2, z1', bind_pq]
    have aX : ∀ τ', Rx τ τ' → Cn_kindOf τ' (nI p) d = (if τ.2.1 206 q = 0 then Cn_kindOf_J125 τ' (nI p) d else Cn_kindOf_J126 τ' (nI p) d 1) := by
      intro τ' hx
      rw [bX τ' hx, if_pos cr, rd_nI h24 (by decide), e102 τ' hx, g, if_neg (nI_not_lt0 (by omega)), rd_nI hq24 (by decide), rd_nI hq24 (by decide), e401 τ' hx, if_neg c2, e206 τ' hx]
    by_cases c3 : τ.2.1 206 q = 0
    · refine ⟨0, ⟨by decide, by decide⟩, fun σ' hm => ?_, fun τ' hx => ⟨τ', ?_, hx⟩⟩
      · obtain ⟨σ1, q1, q2⟩ := aM σ' hm
        exact ⟨σ1, by show M_kindOf σ' (nI p) d = _; rw [q2, if_pos c3, m0], q1⟩
      · show Cn_kindOf τ' (nI p) d = _
        rw [aX τ' hx, if_pos c3, j0]
    obtain ⟨a, -, a1, a2⟩ := h.1.age hp hd1
    obtain ⟨w, u, -, -, u1, u2, -, u3, -⟩ := h.1.comes 7 (p0 := -1) (d := d) (Or.inl rfl) hd1
    have eu : u = w := u3 (by unfold Stq; decide)
    subst eu
    refine ⟨if u ≤ a then 0 else 5, by by_cases c : u ≤ a; (rw [if_pos c]; exact ⟨by decide, by decide⟩); (rw [if_neg c]; exact ⟨by decide, by decide⟩), fun σ' hm => ?_, fun τ' hx => ?_⟩
    · obtain ⟨σ1, q1, q2⟩ := aM σ' hm
      obtain ⟨σ2, z1, z2⟩ := u1 σ1 q1
      have z1' : M_ruled σ1 7 (-1) d d = some (u, σ2) := z1
      have a1' : M_ageOf σ1 (nI p) d = some a := a1 σ1 q1
      refine ⟨σ2, ?_, z2⟩
      show M_kindOf σ' (nI p) d = _
      rw [q2, if_neg c3, a1', bind_so, z1', bind_pq, m0]
      by_cases c : u ≤ a
      · rw [if_pos c, if_pos c]
      · rw [if_neg c, if_neg c]
        unfold M_kindOf_J139
        rw [if_neg n10]
    · obtain ⟨τ2, z1, z2⟩ := u2 τ' hx
      have z1' : Cn_comesTo τ' 7 (-1) d = some (u, τ2) := z1
      have a2' : Bk_ageOn τ' (nI p) d = some a := a2 τ' hx
      refine ⟨τ2, ?_, z2⟩
      show Cn_kindOf τ' (nI p) d = _
      rw [aX τ' hx, if_neg c3]
      unfold Cn_kindOf_J126
      rw [if_neg n10, a2', bind_so, z1', bind_pq]
      by_cases c : u ≤ a
      · rw [if_pos c, if_pos c]
      · rw [if_neg c, if_neg c]
  · -- a member
    obtain ⟨n, n1, n2⟩ := h.1.wedN hp d
    have n1' : ∀ σ', Rm σ σ' → M_weddings σ' (nI p) d = some n := n1
    have n2' : ∀ τ', Rx τ τ' → Lv_howMany τ' (nI p) d 2 = some n := n2
    have bX : ∀ τ', Rx τ τ' → Cn_kindOf τ' (nI p) d = if n ≤ 1 then (Cn_isLate τ' (nI p) d).bind (pq fun r10 r10s => (if r10 = 0 then some (1, r10s) else some (2, r10s))) else some (3, τ') := by
      intro τ' hx
      unfold Cn_kindOf
      rw [l2' τ' hx, bind_so, if_neg n10, s3' τ' hx, bind_so, if_neg n12, if_pos rfl, n2' τ' hx, bind_so]
    have bM : ∀ σ' r10, Rm σ σ' → M_firstJoined σ' (nI p) d = some r10 → M_kindOf σ' (nI p) d = if n ≤ 1 then (M_ageOf σ' (nI p) r10).bind fun r12 => ((M_ruled σ' 8 (nI p) r10 r10).bind (pq fun r13 r13s => (if r12 ≤ r13 then some (1, r13s) else some (2, r13s)))) else some (3, σ') := by
      intro σ' r10 hm hf
      unfold M_kindOf
      rw [s1' σ' hm, bind_so, if_pos rfl, if_neg n10, hf, bind_so, n1' σ' hm, bind_so]
    have late : ∀ e10 : Int32, (∀ σ', Rm σ σ' → M_firstJoined σ' (nI p) d = some e10) → -1 ≤ e10.toInt ∧ e10.toInt ≤ 10000 → (∀ (a w : Int32), UM σ (fun s => M_ageOf s (nI p) e10) a → QM σ (fun s => M_ruled s 8 (nI p) e10 e10) w → InR w 0 9999 → QX τ (fun t => Cn_isLate t (nI p) d) (if a ≤ w then 0 else 1)) → ∃ k : Int32, InR k 0 6 ∧ QM σ (fun s => M_kindOf s (nI p) d) k ∧ QX τ (fun t => Cn_kindOf t (nI p) d) k := by
      intro e10 hf he hl
      obtain ⟨a, -, a1, -⟩ := h.1.age hp he
      obtain ⟨w, u, w0, -, u1, -⟩ := h.1.comes 8 (p0 := nI p) (d := e10) (Or.inr ⟨p, hp, rfl⟩) he
      have hl' := hl a w a1 u1 w0
      by_cases c : n ≤ 1
      case neg =>
        refine ⟨3, ⟨by decide, by decide⟩, fun σ' hm => ⟨σ', ?_, hm⟩, fun τ' hx => ⟨τ', ?_, hx⟩⟩
        · show M_kindOf σ' (nI p) d = _
          rw [bM σ' e10 hm (hf σ' hm), if_neg c]
        · show Cn_kindOf τ' (nI p) d = _
          rw [bX τ' hx, if_neg c]
      refine ⟨if a ≤ w then 1 else 2, by by_cases c : a ≤ w; (rw [if_pos c]; exact ⟨by decide, by decide⟩); (rw [if_neg c]; exact ⟨by decide, by decide⟩), fun σ' hm => ?_, fun τ' hx => ?_⟩
      · obtain ⟨σ1, z1, z2⟩ := u1 σ' hm
        have z1' : M_ruled σ' 8 (nI p) e10 e10 = some (w, σ1) := z1
        have a1' : M_ageOf σ' (nI p) e10 = some a := a1 σ' hm
        refine ⟨σ1, ?_, z2⟩
        show M_kindOf σ' (nI p) d = _
        rw [bM σ' e10 hm (hf σ' hm), if_pos c, a1', bind_so, z1', bind_pq]
        by_cases c' : a ≤ w
        · rw [if_pos c', if_pos c']
        · rw [if_neg c', if_neg c']
      · obtain ⟨τ1, z1, z2⟩ := hl' τ' hx
        have z1' : Cn_isLate τ' (nI p) d = some ((if a ≤ w then 0 else 1), τ1) := z1
        refine ⟨τ1, ?_, z2⟩
        show Cn_kindOf τ' (nI p) d = _
        rw [bX τ' hx, if_pos c, z1', bind_pq]
        by_cases c' : a ≤ w
        · rw [if_pos c', if_pos c', if_pos rfl]
        · rw [if_neg c', if_neg c', if_neg n10]
    rcases h.1.first hp d with ⟨f1, f2⟩ | ⟨e, he, hj, f1, f2⟩
    · refine late (-1) f2 (by decide) fun a w a1 w1 w0 τ' hx => ⟨τ', ?_, hx⟩
      have ea : a = 0 := by
        have := a1 σ (Rm.refl σ)
        have q : M_ageOf σ (nI p) (-1) = some a := this
        rw [M_age_m1 h.1 hp] at q
        exact (Option.some.inj q).symm
      show Cn_isLate τ' (nI p) d = _
      have f1' : Lv_firstOf τ' (nI p) d 4 = some (-1) := f1 τ' hx
      unfold Cn_isLate
      rw [f1', bind_so, if_neg m1_lt0, if_pos]
      rw [ea, i32_le]; exact w0.1
    · have he2 : e < 200 := by have := h.1.2.1.1; omega
      have dj : DayOk (σ.2.1 11 e) := by
        obtain ⟨-, -, g⟩ := h.1.2.1.2.2.2.2.2.2.2.1 e he hj.1
        exact g
      have dj1 : -1 ≤ (σ.2.1 11 e).toInt ∧ (σ.2.1 11 e).toInt ≤ 10000 := by unfold DayOk at dj; omega
      refine late (σ.2.1 11 e) f2 dj1 fun a w a1 w1 w0 τ' hx => ?_
      obtain ⟨a', -, x1, x2⟩ := h.1.age hp dj1
      have ea : a' = a := x1.uniq a1
      subst ea
      obtain ⟨w', u', -, -, u1, u2, -, u3, -⟩ := h.1.comes 8 (p0 := nI p) (d := σ.2.1 11 e) (Or.inr ⟨p, hp, rfl⟩) dj1
      have ew : w' = w := u1.uniq w1
      subst ew
      have eu : u' = w' := u3 (by unfold Stq; decide)
      subst eu
      obtain ⟨τ1, z1, z2⟩ := u2 τ' hx
      have z1' : Cn_comesTo τ' 8 (nI p) (σ.2.1 11 e) = some (u', τ1) := z1
      have x2' : Bk_ageOn τ' (nI p) (σ.2.1 11 e) = some a' := x2 τ' hx
      have f1' : Lv_firstOf τ' (nI p) d 4 = some (nI e) := f1 τ' hx
      refine ⟨τ1, ?_, z2⟩
      show Cn_isLate τ' (nI p) d = _
      unfold Cn_isLate
      rw [f1', bind_so, if_pos (nI_le0 (by omega)), rd_nI he2 (by decide), hx.2.1 110 (by decide) (by decide), h.1.2.1.2.2.2.2.2.1.2.2.2.2.2.2.2.1, x2', bind_so, z1', bind_pq]
      by_cases c' : a' ≤ u'
      · rw [if_pos c', if_pos c']
      · rw [if_neg c', if_neg c']
  · refine ⟨6, ⟨by decide, by decide⟩, fun σ' hm => ⟨σ', ?_, hm⟩, fun τ' hx => ⟨τ', ?_, hx⟩⟩
    · show M_kindOf σ' (nI p) d = _
      unfold M_kindOf
      rw [s1' σ' hm, bind_so, if_neg n21, if_pos rfl, s2' σ' hm, bind_so, if_pos rfl, if_neg n10]
    · show Cn_kindOf τ' (nI p) d = _
      unfold Cn_kindOf
      rw [l2' τ' hx, bind_so, if_neg n10, s3' τ' hx, bind_so, if_pos rfl]
end KINDS
theorem st11 : St11 (InvA ActI) := by
  intro σ τ xs i h
  have same : InvA ActI σ τ := h
  obtain ⟨np, ne, bl, hP, hB, hM, ha⟩ := h
  have hP1 := hP.1
  generalize xs (i + 1) = p0
  generalize xs (i + 2) = p1
  generalize xs (i + 3) = p2
  unfold W_as M_as
  rw [Bk_isPerson_eq hP.2.2.1, M_isPerson_eq hP.1 hP.2.1, Bk_isReach_eq hB.2.2.1, M_isBy_eq hB.2.1, W_isDay_eq, M_isDay_eq]
  simp only [bind_so, b01_if]
  by_cases c : 0 ≤ p0 ∧ p0 < nI np
  case neg =>
    rw [if_neg c, if_neg c]
    exact ⟨_, _, _, rfl, rfl, same⟩
  rw [if_pos c, if_pos c]
  obtain ⟨p, hp, rfl⟩ := inN c (by omega)
  by_cases c1 : -1 ≤ p2 ∧ p2 ≤ nI ne
  case neg =>
    rw [if_neg c1, if_neg c1]
    exact ⟨_, _, _, rfl, rfl, same⟩
  rw [if_pos c1, if_pos c1]
  by_cases c3 : 0 ≤ p1 ∧ p1 ≤ 9999
  case neg =>
    rw [if_neg c3, if_neg c3]
    exact ⟨_, _, _, rfl, rfl, same⟩
  rw [if_pos c3, if_pos c3]
  obtain ⟨na, hh, od, cb⟩ := InvA.cb hP hB hM ha
  obtain ⟨K, σl, τl, τ1, q1, q2, ck, hx, sM, sX⟩ := cb.look c1
  have fin : ∀ σ2 τ2, Rm σl σ2 → Rx τl τ2 → InvA ActI σ2 τ2 := fun σ2 τ2 a b => same.same ActI_stb (sM.trans a.same) (sX.trans b.same)
  rw [q1, q2, bind_pq, bind_pq]
  obtain ⟨v, hv, l1, l2⟩ := ck.1.lives hp p1
  have l1' : M_lives σl (nI p) p1 = some v := l1 σl (Rm.refl σl)
  obtain ⟨k, -, k1, k2⟩ := ck.kind hp (dayOk_of c3)
  rw [l1', bind_so]
  rcases hv with rfl | rfl
  · obtain ⟨τ2, z1, z2⟩ := k2 l1 τ1 hx
    have z1' : Cn_kindOf τ1 (nI p) p1 = some (-5, τ2) := z1
    rw [if_pos rfl, z1', bind_pq]
    exact ⟨_, _, _, rfl, rfl, fin _ _ (Rm.refl σl) z2⟩
  · obtain ⟨k3, k4⟩ := k1 l1
    obtain ⟨σ2, y1, y2⟩ := k3 σl (Rm.refl σl)
    have y1' : M_kindOf σl (nI p) p1 = some (k, σ2) := y1
    obtain ⟨τ2, z1, z2⟩ := k4 τ1 hx
    have z1' : Cn_kindOf τ1 (nI p) p1 = some (k, τ2) := z1
    rw [if_neg n10, y1', bind_pq, z1', bind_pq]
    exact ⟨_, _, _, rfl, rfl, fin _ _ y2 z2⟩
/-- a kind under another -/
def und (a b : Nat) : Bool := b == 0 || a == b || (b == 1 && (a == 2 || a == 3 || a == 6)) || (b == 2 && a == 3)
theorem und_M (σ : MS) {a b : Nat} (ha : a < 7) (hb : b < 7) : M_isUnder σ (nI a) (nI b) = some (if und a b = true then 1 else 0) := by
  rcases (show a = 0 ∨ a = 1 ∨ a = 2 ∨ a = 3 ∨ a = 4 ∨ a = 5 ∨ a = 6 by omega) with rfl | rfl | rfl | rfl | rfl | rfl | rfl <;> rcases (show b = 0 ∨ b = 1 ∨ b = 2 ∨ b = 3 ∨ b = 4 ∨ b = 5 ∨ b = 6 by omega) with rfl | rfl | rfl | rfl | rfl | rfl | rfl <;> rfl
theorem und_X (τ : XS) (p d : Int32) (f : Nat) {a b : Nat} (ha : a < 7) (hb : b < 7) : W_part_L78_r (f + 5) τ p (nI b) d (nI a) 0 = if und a b = true then (Bk_ageOn τ p d).bind fun r6 => some (r6, τ) else some (-6, τ) := by
  rcases (show a = 0 ∨ a = 1 ∨ a = 2 ∨ a = 3 ∨ a = 4 ∨ a = 5 ∨ a = 6 by omega) with rfl | rfl | rfl | rfl | rfl | rfl | rfl <;> rcases (show b = 0 ∨ b = 1 ∨ b = 2 ∨ b = 3 ∨ b = 4 ∨ b = 5 ∨ b = 6 by omega) with rfl | rfl | rfl | rfl | rfl | rfl | rfl <;> rfl
theorem inRn {k : Int32} {n : Nat} (h : InR k 0 n) (hn : n < 2 ^ 31) : ∃ a, a ≤ n ∧ k = nI a := by
  obtain ⟨h1, h2⟩ := h
  obtain ⟨j, hj, e⟩ := nI_of (x := k) (by rw [i32_lt, show (0 : Int32).toInt = 0 from rfl]; omega)
  rw [e, nI_i hj] at h2
  exact ⟨j, by omega, e⟩
theorem st13 : St13 (InvA ActI) := by
  intro σ τ xs i h
  have same : InvA ActI σ τ := h
  obtain ⟨np, ne, bl, hP, hB, hM, ha⟩ := h
  have hP1 := hP.1
  generalize xs (i + 1) = p0
  generalize xs (i + 2) = p1
  generalize xs (i + 3) = p2
  generalize xs (i + 4) = p3
  unfold W_part M_part
  rw [Bk_isPerson_eq hP.2.2.1, M_isPerson_eq hP.1 hP.2.1, Bk_isReach_eq hB.2.2.1, M_isBy_eq hB.2.1, W_isDay_eq, M_isDay_eq, M_in_eq, in_if3]
  simp only [bind_so, b01_if]
  by_cases c : 0 ≤ p0 ∧ p0 < nI np
  case neg =>
    rw [if_neg c, if_neg c]
    exact ⟨_, _, _, rfl, rfl, same⟩
  rw [if_pos c, if_pos c]
  obtain ⟨p, hp, rfl⟩ := inN c (by omega)
  by_cases c0 : 0 ≤ p1 ∧ p1 < 7
  case neg =>
    have c0' : ¬ (0 ≤ p1 ∧ p1 ≤ 6) := fun g => c0 ⟨g.1, by have := g.2; rw [i32_le, show (6 : Int32).toInt = 6 from rfl] at this; rw [i32_lt, show (7 : Int32).toInt = 7 from rfl]; omega⟩
    rw [if_neg c0, if_neg c0']
    exact ⟨_, _, _, rfl, rfl, same⟩
  have c0' : 0 ≤ p1 ∧ p1 ≤ 6 := ⟨c0.1, by have := c0.2; rw [i32_lt, show (7 : Int32).toInt = 7 from rfl] at this; rw [i32_le, show (6 : Int32).toInt = 6 from rfl]; omega⟩
  rw [if_pos c0, if_pos c0']
  obtain ⟨b, hb, rfl⟩ := inN (n := 7) c0 (by omega)
  by_cases c1 : -1 ≤ p3 ∧ p3 ≤ nI ne
  case neg =>
    rw [if_neg c1, if_neg c1]
    exact ⟨_, _, _, rfl, rfl, same⟩
  rw [if_pos c1, if_pos c1]
  by_cases c3 : 0 ≤ p2 ∧ p2 ≤ 9999
  case neg =>
    rw [if_neg c3, if_neg c3]
    exact ⟨_, _, _, rfl, rfl, same⟩
  rw [if_pos c3, if_pos c3]
  obtain ⟨na, hh, od, cb⟩ := InvA.cb hP hB hM ha
  obtain ⟨K, σl, τl, τ1, q1, q2, ck, hx, sM, sX⟩ := cb.look c1
  have fin : ∀ σ2 τ2, Rm σl σ2 → Rx τl τ2 → InvA ActI σ2 τ2 := fun σ2 τ2 a b => same.same ActI_stb (sM.trans a.same) (sX.trans b.same)
  rw [q1, q2, bind_pq, bind_pq]
  obtain ⟨v, hv, l1, l2⟩ := ck.1.lives hp p2
  have l1' : M_lives σl (nI p) p2 = some v := l1 σl (Rm.refl σl)
  obtain ⟨k, k0, k1, k2⟩ := ck.kind hp (dayOk_of c3)
  rw [l1', bind_so]
  rcases hv with rfl | rfl
  · obtain ⟨τ2, z1, z2⟩ := k2 l1 τ1 hx
    have z1' : Cn_kindOf τ1 (nI p) p2 = some (-5, τ2) := z1
    rw [if_pos rfl, z1', bind_pq, if_neg (by decide)]
    exact ⟨_, _, _, rfl, rfl, fin _ _ (Rm.refl σl) z2⟩
  · obtain ⟨k3, k4⟩ := k1 l1
    obtain ⟨a, ha7, rfl⟩ := inRn (n := 6) k0 (by decide)
    obtain ⟨σ2, y1, y2⟩ := k3 σl (Rm.refl σl)
    have y1' : M_kindOf σl (nI p) p2 = some (nI a, σ2) := y1
    obtain ⟨τ2, z1, z2⟩ := k4 τ1 hx
    have z1' : Cn_kindOf τ1 (nI p) p2 = some (nI a, τ2) := z1
    obtain ⟨g, -, g1, g2⟩ := ck.1.age hp (d := p2) (by have := dayOk_of c3; unfold DayOk at this; omega)
    have g1' : M_ageOf σ2 (nI p) p2 = some g := g1 σ2 y2
    have g2' : Bk_ageOn τ2 (nI p) p2 = some g := g2 τ2 z2
    rw [if_neg n10, y1', bind_pq, z1', bind_pq, if_pos (nI_le0 (by omega)), und_M σ2 (by omega) hb, bind_so]
    unfold W_part_L78
    rw [show (100000 : Nat) = 99995 + 5 from rfl, und_X τ2 (nI p) p2 99995 (by omega) hb, g1', g2']
    by_cases cu : und a b = true
    · rw [if_pos cu, if_pos cu, if_neg n10]
      exact ⟨_, _, _, rfl, rfl, fin _ _ y2 z2⟩
    · rw [if_neg cu, if_neg cu, if_pos rfl]
      exact ⟨_, _, _, rfl, rfl, fin _ _ y2 z2⟩
