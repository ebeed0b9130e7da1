/-! the calls that tell entries; laid by 35.py -/
section EASY
variable {A : MS → XS → Prop}
theorem Bk_isMan_nI {σ : MS} {τ : XS} {np p : Nat} (hP : PplI σ τ np) (hp : p < np) : Bk_isMan τ (nI p) = some (b01 (σ.2.1 2 p = 0)) := by
  unfold Bk_isMan b01
  rw [Bk_isPerson_eq hP.2.2.1, bind_so, b01_if, if_pos ⟨nI_le0 (by have := hP.1; omega), by have := hP.1; rw [nI_ltI (by omega) (by omega)]; exact hp⟩, rd_nI (by have := hP.1; omega) (by decide), hP.2.2.2.1]
  by_cases c : σ.2.1 2 p = 0
  · rw [if_pos c, if_pos c]
  · rw [if_neg c, if_neg c]
theorem Bk_isWoman_nI {σ : MS} {τ : XS} {np p : Nat} (hP : PplI σ τ np) (hp : p < np) : Bk_isWoman τ (nI p) = some (b01 (σ.2.1 2 p = 1)) := by
  unfold Bk_isWoman b01
  rw [Bk_isPerson_eq hP.2.2.1, bind_so, b01_if, if_pos ⟨nI_le0 (by have := hP.1; omega), by have := hP.1; rw [nI_ltI (by omega) (by omega)]; exact hp⟩, rd_nI (by have := hP.1; omega) (by decide), hP.2.2.2.1]
  by_cases c : σ.2.1 2 p = 1
  · rw [if_pos c, if_pos c]
  · rw [if_neg c, if_neg c]
/-- both books are looked up by the first K entries -/
theorem InvA.view (hA : Stb A) {σ : MS} {τ : XS} {np ne : Nat} {bl : List Nat} (hP : PplI σ τ np) (hB : BkI σ τ np ne bl) (hM : MisI σ τ np) (ha : A σ τ) {e : Int32} (he : -1 ≤ e ∧ e ≤ nI ne) : ∃ (K : Nat) (s d d' a t l : Nat → Int32), K ≤ ne ∧ ((e = -1 ∧ K = ne) ∨ (e ≠ -1 ∧ e = nI K)) ∧ M_looks σ e = some ((), lookM σ K s d) ∧ Lv_readBook τ e = some ((), lookX τ d' a t l) ∧ (∀ i, i < K → (s i ≠ 0 ↔ StM σ K i)) ∧ Vw (lookM σ K s d) (lookX τ d' a t l) K np ∧ PplI (lookM σ K s d) (lookX τ d' a t l) np ∧ BkI (lookM σ K s d) (lookX τ d' a t l) np ne bl ∧ MisI (lookM σ K s d) (lookX τ d' a t l) np ∧ A (lookM σ K s d) (lookX τ d' a t l) := by
  have b1 := hB.1
  obtain ⟨K, hK, hk⟩ : ∃ K, K ≤ ne ∧ ((e = -1 ∧ K = ne) ∨ (e ≠ -1 ∧ e = nI K)) := by
    obtain ⟨K, hK, g | g⟩ := inR he (by omega)
    · exact ⟨ne, Nat.le_refl _, Or.inl ⟨g, rfl⟩⟩
    · exact ⟨K, hK, Or.inr g⟩
  obtain ⟨s, d, d', a, t, l, q1, q2, q3, q4⟩ := view_of hP hB hK hk
  exact ⟨K, s, d, d', a, t, l, hK, hk, q1, q2, q3, q4, hP.same SameM.look SameX.look, hB.same SameM.look SameX.look, hM.same SameM.look SameX.look, hA.same ha SameM.look SameX.look⟩
theorem reach_m1 {ne : Nat} (h : ne ≤ 200) : (-1 : Int32) ≤ -1 ∧ (-1 : Int32) ≤ nI ne := ⟨Int32.le_refl _, by rw [i32_le, lit_m1, nI_i (by omega)]; omega⟩
theorem tell_done (hA : Stb A) {σ : MS} {τ : XS} {np ne : Nat} {bl : List Nat} (hP : PplI σ τ np) (hB : BkI σ τ np ne bl) (hM : MisI σ τ np) (ha : A σ τ) {p0 p1 p2 p3 p4 : Int32} (hN : NewE σ np ne p0 p1 p2 p3 p4) : ∃ (r : Int32) (σ1 : MS) (τ1 : XS), M_tells σ p0 p1 p2 p3 p4 = some (r, σ1) ∧ Bk_addEntry τ p0 p1 p2 p3 p4 = some (r, τ1) ∧ InvA A σ1 τ1 := by
  obtain ⟨r, σ1, τ1, ne1, bl1, q1, q2, q3, q4⟩ := tell_spec hB hN
  exact ⟨r, σ1, τ1, q1, q2, np, ne1, bl1, q4.ppl hP, q3, q4.mis hM, q4.act hA ha⟩
theorem lives_born {σ : MS} {p : Nat} {day : Int32} (hp : p < 24) (h : M_lives σ (nI p) day = some 1) : (σ.2.1 3 p).toInt ≤ day.toInt := by
  unfold M_lives at h
  rw [rd_nI hp (by decide)] at h
  by_cases c : day < σ.2.1 3 p
  · rw [if_pos c] at h; exact absurd h (by decide)
  · rw [i32_lt] at c; omega
theorem member_lives {σ : MS} {τ : XS} {K np p : Nat} {day : Int32} (vw : Vw σ τ K np) (hp : p < np) (h : M_isMember σ (nI p) day = some 1 ∨ M_isGone σ (nI p) day = some 1) : (σ.2.1 3 p).toInt ≤ day.toInt := by
  obtain ⟨v, hv, e1, -⟩ := vw.lives hp day
  have h24 : p < 24 := by have := vw.2.1; omega
  rcases hv with rfl | rfl
  · exfalso
    rcases h with h | h
    · unfold M_isMember at h
      rw [e1, bind_so, if_pos rfl] at h
      unfold M_isMember_J21 at h
      simp at h
    · unfold M_isGone at h
      rw [e1, bind_so, if_pos rfl] at h
      unfold M_isGone_J21 at h
      simp at h
  · exact lives_born h24 e1
theorem tell_member (hA : Stb A) {σ : MS} {τ : XS} {np ne : Nat} {bl : List Nat} (hP : PplI σ τ np) (hB : BkI σ τ np ne bl) (hM : MisI σ τ np) (ha : A σ τ) {p k : Nat} {x day : Int32} (hp : p < np) (hm : σ.2.1 2 p = 0) (hd : 0 ≤ day ∧ day ≤ 9999) (hk : k = 3 ∨ k = 4 ∨ k = 6) (h3 : k = 3 → InR x 0 3) (h6 : k = 6 → InR x 1 9999) : ∃ (r : Int32) (σ1 : MS) (τ1 : XS), W_tellOfMember τ (nI k) (nI p) x day = some (r, τ1) ∧ ((M_looks σ (-1)).bind (pq fun _ r5s => ((M_isMember r5s (nI p) day).bind fun r6 => (if r6 = 0 then some (-3, r5s) else (M_tells r5s (nI k) (nI p) x day (-1)).bind (pq fun r7 r7s => (some (r7, r7s))))))) = some (r, σ1) ∧ InvA A σ1 τ1 := by
  obtain ⟨K, s, d, d', a, t, l, hK, hk', q1, q2, q3, vw, P', B', M', A'⟩ := InvA.view hA hP hB hM ha (reach_m1 hB.1)
  have same : InvA A (lookM σ K s d) (lookX τ d' a t l) := ⟨np, ne, bl, P', B', M', A'⟩
  unfold W_tellOfMember
  rw [q1, q2, bind_pq, bind_pq]
  obtain ⟨v, e1, e2⟩ := vw.standing hp day
  rw [e1, bind_so]
  rcases e2 with ⟨rfl, m, g⟩ | ⟨rfl, m, g⟩ | ⟨rfl, m, g⟩
  · rw [m, bind_so, if_pos rfl, if_neg (by decide)]
    exact ⟨_, _, _, rfl, rfl, same⟩
  · rw [m, bind_so, if_pos rfl, if_neg (by decide)]
    have hb := member_lives vw hp (Or.inl m)
    obtain ⟨r, σ1, τ1, z1, z2, z3⟩ := tell_done hA P' B' M' A' (p0 := nI k) (p1 := nI p) (p2 := x) (p3 := day) (p4 := -1) (Or.inr ⟨⟨k, by omega, rfl⟩, ⟨i32_le.mp hd.1, by have := i32_le.mp hd.2; rw [show (9999 : Int32).toInt = 9999 from rfl] at this; omega⟩, p, hp, rfl, hb, fun _ => by rw [lookM_2 (by decide)]; exact hm, fun g => by rw [show (1 : Int32) = nI 1 from rfl, nI_eq (by omega) (by omega)] at g; omega, fun g => by rw [show (2 : Int32) = nI 2 from rfl, nI_eq (by omega) (by omega)] at g; omega, fun g => by rw [show (3 : Int32) = nI 3 from rfl, nI_eq (by omega) (by omega)] at g; exact h3 g, fun g => by rw [show (6 : Int32) = nI 6 from rfl, nI_eq (by omega) (by omega)] at g; exact h6 g⟩)
    rw [z1, z2, bind_pq, bind_pq]
    exact ⟨_, _, _, rfl, rfl, z3⟩
  · rw [m, bind_so, if_pos rfl, if_neg (by decide)]
    exact ⟨_, _, _, rfl, rfl, same⟩
theorem dayOk_of {d : Int32} (hd : 0 ≤ d ∧ d ≤ 9999) : DayOk d := ⟨i32_le.mp hd.1, by have := i32_le.mp hd.2; rw [show (9999 : Int32).toInt = 9999 from rfl] at this; omega⟩
theorem st6 (hA : Stb A) : St6 (InvA A) := by
  intro σ τ xs i h
  have same : InvA A σ τ := h
  obtain ⟨np, ne, bl, hP, hB, hM, ha⟩ := h
  have hP1 := hP.1
  generalize xs (i + 1) = p0
  generalize xs (i + 2) = p1
  generalize xs (i + 3) = p2
  unfold W_rate M_rate
  rw [Bk_isPerson_eq hP.2.2.1, M_isPerson_eq hP.1 hP.2.1, W_isRate_eq, M_in_eq, W_isDay_eq, M_isDay_eq]
  simp only [bind_so, b01_if]
  by_cases c : 0 ≤ p0 ∧ p0 < nI np
  case neg =>
    rw [if_neg c, if_neg c]
    exact ⟨_, _, _, rfl, rfl, same⟩
  rw [if_pos c, if_pos c]
  obtain ⟨p, hp, rfl⟩ := inN c (by omega)
  rw [Bk_isMan_nI hP hp, bind_so, b01_if, rd_nI (by omega) (by decide)]
  by_cases cm : σ.2.1 2 p = 0
  case neg =>
    rw [if_neg cm, if_neg cm]
    exact ⟨_, _, _, rfl, rfl, same⟩
  rw [if_pos cm, if_pos cm]
  by_cases c1 : 0 ≤ p1 ∧ p1 ≤ 3
  case neg =>
    rw [if_neg c1, if_neg c1]
    exact ⟨_, _, _, rfl, rfl, same⟩
  rw [if_pos c1, if_pos c1]
  by_cases c2 : 0 ≤ p2 ∧ p2 ≤ 9999
  case neg =>
    rw [if_neg c2, if_neg c2]
    exact ⟨_, _, _, rfl, rfl, same⟩
  rw [if_pos c2, if_pos c2]
  obtain ⟨r, σ1, τ1, z1, z2, z3⟩ := tell_member hA hP hB hM ha (k := 3) (x := p1) hp cm c2 (by omega) (fun _ => ⟨i32_le.mp c1.1, i32_le.mp c1.2⟩) (by omega)
  refine ⟨r, σ1, τ1, ?_, z2, z3⟩
  rw [show (3 : Int32) = nI 3 from rfl, z1, bind_pq]
theorem st8 (hA : Stb A) : St8 (InvA A) := by
  intro σ τ xs i h
  have same : InvA A σ τ := h
  obtain ⟨np, ne, bl, hP, hB, hM, ha⟩ := h
  have hP1 := hP.1
  generalize xs (i + 1) = p0
  generalize xs (i + 2) = p1
  generalize xs (i + 3) = p2
  unfold W_pay M_pay
  rw [Bk_isPerson_eq hP.2.2.1, M_isPerson_eq hP.1 hP.2.1, M_in_eq, W_isDay_eq, M_isDay_eq]
  simp only [bind_so, b01_if, in_if2]
  by_cases c : 0 ≤ p0 ∧ p0 < nI np
  case neg =>
    rw [if_neg c, if_neg c]
    exact ⟨_, _, _, rfl, rfl, same⟩
  rw [if_pos c, if_pos c]
  obtain ⟨p, hp, rfl⟩ := inN c (by omega)
  rw [Bk_isMan_nI hP hp, bind_so, b01_if, rd_nI (by omega) (by decide)]
  by_cases cm : σ.2.1 2 p = 0
  case neg =>
    rw [if_neg cm, if_neg cm]
    exact ⟨_, _, _, rfl, rfl, same⟩
  rw [if_pos cm, if_pos cm]
  by_cases c1 : 1 ≤ p1 ∧ p1 ≤ 9999
  case neg =>
    rw [if_neg c1, if_neg c1]
    exact ⟨_, _, _, rfl, rfl, same⟩
  rw [if_pos c1, if_pos c1]
  by_cases c2 : 0 ≤ p2 ∧ p2 ≤ 9999
  case neg =>
    rw [if_neg c2, if_neg c2]
    exact ⟨_, _, _, rfl, rfl, same⟩
  rw [if_pos c2, if_pos c2]
  obtain ⟨r, σ1, τ1, z1, z2, z3⟩ := tell_member hA hP hB hM ha (k := 6) (x := p1) hp cm c2 (by omega) (by omega) (fun _ => ⟨i32_le.mp c1.1, i32_le.mp c1.2⟩)
  refine ⟨r, σ1, τ1, ?_, z2, z3⟩
  rw [show (6 : Int32) = nI 6 from rfl, z1, bind_pq]
theorem st4 (hA : Stb A) : St4 (InvA A) := by
  intro σ τ xs i h
  have same : InvA A σ τ := h
  obtain ⟨np, ne, bl, hP, hB, hM, ha⟩ := h
  have hP1 := hP.1
  generalize xs (i + 1) = p0
  generalize xs (i + 2) = p2
  unfold W_death M_death
  rw [Bk_isPerson_eq hP.2.2.1, M_isPerson_eq hP.1 hP.2.1, W_isDay_eq, M_isDay_eq]
  simp only [bind_so, b01_if]
  by_cases c : 0 ≤ p0 ∧ p0 < nI np
  case neg =>
    rw [if_neg c, if_neg c]
    exact ⟨_, _, _, rfl, rfl, same⟩
  rw [if_pos c, if_pos c]
  obtain ⟨p, hp, rfl⟩ := inN c (by omega)
  by_cases c2 : 0 ≤ p2 ∧ p2 ≤ 9999
  case neg =>
    rw [if_neg c2, if_neg c2]
    exact ⟨_, _, _, rfl, rfl, same⟩
  rw [if_pos c2, if_pos c2]
  obtain ⟨K, s, d, d', a, t, l, hK, hk', q1, q2, q3, vw, P', B', M', A'⟩ := InvA.view hA hP hB hM ha (reach_m1 hB.1)
  rw [q1, q2, bind_pq, bind_pq]
  obtain ⟨v, hv, e1, e2⟩ := vw.lives hp p2
  rw [e1, e2, bind_so, bind_so]
  rcases hv with rfl | rfl
  · rw [if_pos rfl, if_pos rfl]
    exact ⟨_, _, _, rfl, rfl, np, ne, bl, P', B', M', A'⟩
  rw [if_neg (by decide), if_neg (by decide)]
  obtain ⟨r, σ1, τ1, z1, z2, z3⟩ := tell_done hA P' B' M' A' (p0 := 0) (p1 := nI p) (p2 := -1) (p3 := p2) (p4 := -1) (Or.inr ⟨⟨0, by decide, rfl⟩, dayOk_of c2, p, hp, rfl, lives_born (by omega) e1, fun g => absurd rfl g, fun g => absurd g (by decide), fun g => absurd g (by decide), fun g => absurd g (by decide), fun g => absurd g (by decide)⟩)
  rw [z1, z2, bind_pq, bind_pq]
  exact ⟨_, _, _, rfl, rfl, z3⟩
theorem st3 (hA : Stb A) : St3 (InvA A) := by
  intro σ τ xs i h
  have same : InvA A σ τ := h
  obtain ⟨np, ne, bl, hP, hB, hM, ha⟩ := h
  have hP1 := hP.1
  generalize xs (i + 1) = p0
  generalize xs (i + 2) = p1
  generalize xs (i + 3) = p2
  unfold W_wed M_wed
  rw [Bk_isPerson_eq hP.2.2.1, M_isPerson_eq hP.1 hP.2.1, Bk_isPerson_eq hP.2.2.1, M_isPerson_eq hP.1 hP.2.1, W_isDay_eq, M_isDay_eq]
  simp only [bind_so, b01_if]
  by_cases c : 0 ≤ p0 ∧ p0 < nI np
  case neg =>
    rw [if_neg c, if_neg c]
    exact ⟨_, _, _, rfl, rfl, same⟩
  rw [if_pos c, if_pos c]
  obtain ⟨p, hp, rfl⟩ := inN c (by omega)
  by_cases c1 : 0 ≤ p1 ∧ p1 < nI np
  case neg =>
    rw [if_neg c1, if_neg c1]
    exact ⟨_, _, _, rfl, rfl, same⟩
  rw [if_pos c1, if_pos c1]
  obtain ⟨q, hq, rfl⟩ := inN c1 (by omega)
  by_cases c2 : 0 ≤ p2 ∧ p2 ≤ 9999
  case neg =>
    rw [if_neg c2, if_neg c2]
    exact ⟨_, _, _, rfl, rfl, same⟩
  rw [if_pos c2, if_pos c2, Bk_isMan_nI hP hp, Bk_isWoman_nI hP hq]
  simp only [bind_so, b01_if, rd_nI (show p < 24 by omega) (show 24 < 2 ^ 31 by decide), rd_nI (show q < 24 by omega) (show 24 < 2 ^ 31 by decide)]
  by_cases cm : σ.2.1 2 p = 0
  case neg =>
    rw [if_neg cm, if_neg cm]
    exact ⟨_, _, _, rfl, rfl, same⟩
  rw [if_pos cm, if_pos cm]
  by_cases cw : σ.2.1 2 q = 1
  case neg =>
    rw [if_neg cw, if_neg cw]
    exact ⟨_, _, _, rfl, rfl, same⟩
  rw [if_pos cw, if_pos cw]
  obtain ⟨K, s, d, d', a, t, l, hK, hk', q1, q2, q3, vw, P', B', M', A'⟩ := InvA.view hA hP hB hM ha (reach_m1 hB.1)
  have same' : InvA A (lookM σ K s d) (lookX τ d' a t l) := ⟨np, ne, bl, P', B', M', A'⟩
  rw [q1, q2, bind_pq, bind_pq]
  obtain ⟨v, hv, e1, e2⟩ := vw.lives hp p2
  rw [e1, e2, bind_so, bind_so]
  rcases hv with rfl | rfl
  · rw [if_pos rfl, if_pos rfl]
    exact ⟨_, _, _, rfl, rfl, same'⟩
  rw [if_neg (by decide), if_neg (by decide)]
  obtain ⟨v, hv, e3, e4⟩ := vw.lives hq p2
  rw [e3, e4, bind_so, bind_so]
  rcases hv with rfl | rfl
  · rw [if_pos rfl, if_pos rfl]
    exact ⟨_, _, _, rfl, rfl, same'⟩
  rw [if_neg (by decide), if_neg (by decide)]
  obtain ⟨v, w1, w2, -⟩ := vw.wedTo hp p2
  rw [w1, w2, bind_so, bind_so]
  by_cases cv : v = -1
  case neg =>
    rw [if_neg cv, if_neg cv]
    exact ⟨_, _, _, rfl, rfl, same'⟩
  rw [if_pos cv, if_pos cv]
  obtain ⟨v', w3, w4, -⟩ := vw.wedTo hq p2
  rw [w3, w4, bind_so, bind_so]
  by_cases cv' : v' = -1
  case neg =>
    rw [if_neg cv', if_neg cv']
    exact ⟨_, _, _, rfl, rfl, same'⟩
  rw [if_pos cv', if_pos cv']
  obtain ⟨r, σ1, τ1, z1, z2, z3⟩ := tell_done hA P' B' M' A' (p0 := 1) (p1 := nI p) (p2 := nI q) (p3 := p2) (p4 := -1) (Or.inr ⟨⟨1, by decide, rfl⟩, dayOk_of c2, p, hp, rfl, lives_born (by omega) e1, fun _ => by rw [lookM_2 (by decide)]; exact cm, fun _ => ⟨q, hq, rfl, by rw [lookM_2 (by decide)]; exact cw, lives_born (by omega) e3⟩, fun g => absurd g (by decide), fun g => absurd g (by decide), fun g => absurd g (by decide)⟩)
  rw [z1, z2, bind_pq, bind_pq]
  exact ⟨_, _, _, rfl, rfl, z3⟩
theorem st5 (hA : Stb A) : St5 (InvA A) := by
  intro σ τ xs i h
  have same : InvA A σ τ := h
  obtain ⟨np, ne, bl, hP, hB, hM, ha⟩ := h
  have hP1 := hP.1
  generalize xs (i + 1) = p0
  generalize xs (i + 2) = p1
  generalize xs (i + 3) = p2
  generalize xs (i + 4) = p3
  have b18 := hB.2.2.2.2.2.2.2.2.2.2.2.2.2.2.2.2.2
  unfold W_member M_member
  rw [Bk_isPerson_eq hP.2.2.1, M_isPerson_eq hP.1 hP.2.1, M_in_eq, M_in_eq, W_isRate_eq, W_isDay_eq, M_isDay_eq, in_if4, b18.2]
  simp only [bind_so, b01_if]
  by_cases c : 0 ≤ p0 ∧ p0 < nI np
  case neg =>
    rw [if_neg c, if_neg c]
    exact ⟨_, _, _, rfl, rfl, same⟩
  rw [if_pos c, if_pos c]
  obtain ⟨p, hp, rfl⟩ := inN c (by omega)
  have es : (0 ≤ p1 ∧ p1 < σ.1 6) ↔ (0 ≤ p1 ∧ p1 ≤ σ.1 6 - 1) := by
    refine and_congr_right fun _ => ?_
    obtain ⟨y1, y2⟩ := b18.1
    rw [i32_lt, i32_le, Int32.toInt_sub, show (1 : Int32).toInt = 1 from rfl, show (2 : Nat) ^ 32 = 4294967296 from rfl, Int.bmod_eq_of_le (by omega) (by omega)]
    omega
  by_cases c1 : 0 ≤ p1 ∧ p1 < σ.1 6
  case neg =>
    rw [if_neg c1, if_neg fun g => c1 (es.mpr g)]
    exact ⟨_, _, _, rfl, rfl, same⟩
  rw [if_pos c1, if_pos (es.mp c1), Bk_isMan_nI hP hp]
  simp only [bind_so, b01_if, rd_nI (show p < 24 by omega) (show 24 < 2 ^ 31 by decide)]
  by_cases cm : σ.2.1 2 p = 0
  case neg =>
    rw [if_neg cm, if_neg cm]
    exact ⟨_, _, _, rfl, rfl, same⟩
  rw [if_pos cm, if_pos cm]
  by_cases c2 : 0 ≤ p2 ∧ p2 ≤ 3
  case neg =>
    rw [if_neg c2, if_neg c2]
    exact ⟨_, _, _, rfl, rfl, same⟩
  rw [if_pos c2, if_pos c2]
  by_cases c3 : 0 ≤ p3 ∧ p3 ≤ 9999
  case neg =>
    rw [if_neg c3, if_neg c3]
    exact ⟨_, _, _, rfl, rfl, same⟩
  rw [if_pos c3, if_pos c3]
  obtain ⟨K, s, d, d', a, t, l, hK, hk', q1, q2, q3, vw, P', B', M', A'⟩ := InvA.view hA hP hB hM ha (reach_m1 hB.1)
  have same' : InvA A (lookM σ K s d) (lookX τ d' a t l) := ⟨np, ne, bl, P', B', M', A'⟩
  rw [q1, q2, bind_pq, bind_pq]
  obtain ⟨v, hv, e1, e2⟩ := vw.lives hp p3
  rw [e1, e2, bind_so, bind_so]
  rcases hv with rfl | rfl
  · rw [if_pos rfl, if_pos rfl]
    exact ⟨_, _, _, rfl, rfl, same'⟩
  rw [if_neg (by decide), if_neg (by decide)]
  obtain ⟨v, s1, s2⟩ := vw.standing hp p3
  rw [s1, bind_so]
  rcases s2 with ⟨rfl, m, g⟩ | ⟨rfl, m, g⟩ | ⟨rfl, m, g⟩
  · rw [m, g, bind_so, bind_so, if_pos rfl, if_pos rfl, if_pos rfl]
    obtain ⟨v, hv, t1, t2, -⟩ := vw.taken p1 p3
    rw [t1, t2, bind_so, bind_so]
    rcases hv with rfl | rfl
    · rw [if_pos rfl, if_pos rfl]
      obtain ⟨r, σ1, τ1, z1, z2, z3⟩ := tell_done hA P' B' M' A' (p0 := 2) (p1 := nI p) (p2 := p1) (p3 := p3) (p4 := p2) (Or.inr ⟨⟨2, by decide, rfl⟩, dayOk_of c3, p, hp, rfl, lives_born (by omega) e1, fun _ => by rw [lookM_2 (by decide)]; exact cm, fun g => absurd g (by decide), fun _ => ⟨i32_le.mp c1.1, by rw [lookM_1 (by decide)]; exact i32_lt.mp c1.2, i32_le.mp c2.1, i32_le.mp c2.2⟩, fun g => absurd g (by decide), fun g => absurd g (by decide)⟩)
      rw [z1, z2, bind_pq, bind_pq]
      exact ⟨_, _, _, rfl, rfl, z3⟩
    · rw [if_neg (by decide), if_neg (by decide)]
      exact ⟨_, _, _, rfl, rfl, same'⟩
  · rw [m, bind_so, if_neg (by decide), if_neg (by decide)]
    exact ⟨_, _, _, rfl, rfl, same'⟩
  · rw [m, g, bind_so, bind_so, if_pos rfl, if_neg (by decide), if_neg (by decide)]
    exact ⟨_, _, _, rfl, rfl, same'⟩
theorem st7 (hA : Stb A) : St7 (InvA A) := by
  intro σ τ xs i h
  have same : InvA A σ τ := h
  obtain ⟨np, ne, bl, hP, hB, hM, ha⟩ := h
  have hP1 := hP.1
  generalize xs (i + 1) = p0
  generalize (if xs (i + 2) = 0 then (0 : Int32) else 1) = p1
  generalize xs (i + 3) = p2
  unfold W_gone M_gone
  rw [Bk_isPerson_eq hP.2.2.1, M_isPerson_eq hP.1 hP.2.1, W_isDay_eq, M_isDay_eq]
  simp only [bind_so, b01_if]
  by_cases c : 0 ≤ p0 ∧ p0 < nI np
  case neg =>
    rw [if_neg c, if_neg c]
    exact ⟨_, _, _, rfl, rfl, same⟩
  rw [if_pos c, if_pos c]
  obtain ⟨p, hp, rfl⟩ := inN c (by omega)
  rw [Bk_isMan_nI hP hp, bind_so, b01_if, rd_nI (by omega) (by decide)]
  by_cases cm : σ.2.1 2 p = 0
  case neg =>
    rw [if_neg cm, if_neg cm]
    exact ⟨_, _, _, rfl, rfl, same⟩
  rw [if_pos cm, if_pos cm]
  by_cases c2 : 0 ≤ p2 ∧ p2 ≤ 9999
  case neg =>
    rw [if_neg c2, if_neg c2]
    exact ⟨_, _, _, rfl, rfl, same⟩
  rw [if_pos c2, if_pos c2]
  by_cases c1 : p1 = 0
  · rw [if_pos c1]
    obtain ⟨r, σ1, τ1, z1, z2, z3⟩ := tell_member hA hP hB hM ha (k := 4) (x := -1) hp cm c2 (by omega) (by omega) (by omega)
    refine ⟨r, σ1, τ1, ?_, ?_, z3⟩
    · rw [show (4 : Int32) = nI 4 from rfl, z1, bind_pq]
    · rw [← z2]
      congr 1
      congr 1
      funext r5 r5s
      rw [if_pos c1]
      congr 1
      funext r6
      unfold M_gone_J75 M_gone_J92
      rw [if_pos c1]
      rfl
  rw [if_neg c1]
  obtain ⟨K, s, d, d', a, t, l, hK, hk', q1, q2, q3, vw, P', B', M', A'⟩ := InvA.view hA hP hB hM ha (reach_m1 hB.1)
  have same' : InvA A (lookM σ K s d) (lookX τ d' a t l) := ⟨np, ne, bl, P', B', M', A'⟩
  rw [q1, q2, bind_pq, bind_pq, if_neg c1]
  obtain ⟨v, s1, s2⟩ := vw.standing hp p2
  rw [s1, bind_so]
  unfold M_gone_J65 M_gone_J75 M_gone_J92
  rcases s2 with ⟨rfl, m, g⟩ | ⟨rfl, m, g⟩ | ⟨rfl, m, g⟩
  · rw [g, bind_so, if_pos rfl, if_neg (by decide), if_pos rfl]
    exact ⟨_, _, _, rfl, rfl, same'⟩
  · rw [g, bind_so, if_pos rfl, if_neg (by decide), if_pos rfl]
    exact ⟨_, _, _, rfl, rfl, same'⟩
  rw [g, bind_so, if_pos rfl, if_neg (by decide)]
  obtain ⟨v, t1, t2, -⟩ := vw.seat hp p2
  rw [t1, t2, bind_so, bind_so]
  obtain ⟨v', hv', u1, u2, -⟩ := vw.taken v p2
  rw [u1, u2, bind_so, bind_so]
  rcases hv' with rfl | rfl
  · rw [if_pos rfl, if_pos rfl, if_neg (by decide), if_neg c1]
    have hb := member_lives vw hp (Or.inr g)
    obtain ⟨r, σ1, τ1, z1, z2, z3⟩ := tell_done hA P' B' M' A' (p0 := 5) (p1 := nI p) (p2 := -1) (p3 := p2) (p4 := -1) (Or.inr ⟨⟨5, by decide, rfl⟩, dayOk_of c2, p, hp, rfl, hb, fun _ => by rw [lookM_2 (by decide)]; exact cm, fun g => absurd g (by decide), fun g => absurd g (by decide), fun g => absurd g (by decide), fun g => absurd g (by decide)⟩)
    rw [z1, z2, bind_pq, bind_pq]
    exact ⟨_, _, _, rfl, rfl, z3⟩
  · rw [if_neg (by decide), if_neg (by decide), if_pos rfl]
    exact ⟨_, _, _, rfl, rfl, same'⟩
theorem st9 (hA : Stb A) : St9 (InvA A) := by
  intro σ τ xs i h
  have same : InvA A σ τ := h
  obtain ⟨np, ne, bl, hP, hB, hM, ha⟩ := h
  have hP1 := hP.1
  generalize xs (i + 1) = p0
  have hB0 := hB
  obtain ⟨b1, b2, b3, b4, b5, b6, b7, b8, b9, b10, b11, b12, b13, b14, b15, b16, b17, b18, b19⟩ := hB
  unfold W_strike M_strike
  rw [b2, M_in_N (by omega), Bk_isEntry_eq b3, bind_so, bind_so, b01_if, b01_if]
  by_cases c : 0 ≤ p0 ∧ p0 < nI ne
  case neg =>
    rw [if_neg c, if_neg c]
    exact ⟨_, _, _, rfl, rfl, same⟩
  rw [if_pos c, if_pos c]
  obtain ⟨j, hj, rfl⟩ := inN c (by omega)
  obtain ⟨K, s, d, d', a, t, l, hK, hk', q1, q2, q3, vw, P', B', M', A'⟩ := InvA.view hA hP hB0 hM ha (reach_m1 b1)
  have eK : K = ne := by
    rcases hk' with g | g
    · exact g.2
    · exact absurd rfl g.1
  subst eK
  rw [q1, bind_pq, rd_nI (by omega) (by decide), lookM_s, rd_nI (by omega) (by decide), rd_nI (by omega) (by decide), b4]
  have nx : InvA A (lookM σ K s d) τ := ⟨np, K, bl, hP.same SameM.look SameX.rfl, hB0.same SameM.look SameX.rfl, hM.same SameM.look SameX.rfl, hA.same ha SameM.look SameX.rfl⟩
  have hst := q3 j hj
  unfold StM at hst
  by_cases c7 : σ.2.1 8 j = 7
  · rw [if_pos c7, if_pos (Classical.byContradiction fun g => (hst.mp g).2.1 c7)]
    exact ⟨_, _, _, rfl, rfl, nx⟩
  rw [if_neg c7]
  rcases b10 j hj with ⟨g1, g2⟩ | ⟨i0, g1, g2, g3, g4, g5, g6⟩
  · rw [g1, if_pos (by decide), if_neg (hst.mpr ⟨hj, c7, fun i' hi' => g2 i' (by omega)⟩)]
    obtain ⟨r, σ1, τ1, z1, z2, z3⟩ := tell_done hA (hP.same SameM.look SameX.rfl) (hB0.same SameM.look SameX.rfl) (hM.same SameM.look SameX.rfl) (hA.same ha SameM.look SameX.rfl) (σ := lookM σ K s d) (τ := τ) (p0 := 7) (p1 := nI j) (p2 := -1) (p3 := -1) (p4 := -1) (Or.inl ⟨rfl, j, hj, rfl, by rw [lookM_2 (by decide)]; exact c7, fun i' hi' => by rw [lookM_2 (by decide), lookM_2 (by decide)]; exact g2 i' hi'⟩)
    rw [z1, z2, bind_pq, bind_pq]
    exact ⟨_, _, _, rfl, rfl, z3⟩
  · rw [g3, if_neg (by rw [show (200 : Int32) = nI 200 from rfl, nI_leI (by omega) (by omega)]; omega), if_pos (Classical.byContradiction fun g => (hst.mp g).2.2 i0 (by omega) g4 g5)]
    exact ⟨_, _, _, rfl, rfl, nx⟩
end EASY
