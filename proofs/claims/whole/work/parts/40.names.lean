/-! the five names: age of membership and the rest -/
theorem wr5_0 {β : Type} {k : Option β} : wr 5 0 k = k := wr_nI (i := 0) (by decide) (by decide)
theorem wr5_1 {β : Type} {k : Option β} : wr 5 1 k = k := wr_nI (i := 1) (by decide) (by decide)
theorem wr5_2 {β : Type} {k : Option β} : wr 5 2 k = k := wr_nI (i := 2) (by decide) (by decide)
theorem wr5_3 {β : Type} {k : Option β} : wr 5 3 k = k := wr_nI (i := 3) (by decide) (by decide)
theorem wr5_4 {β : Type} {k : Option β} : wr 5 4 k = k := wr_nI (i := 4) (by decide) (by decide)
theorem clm0 : (0 : Int32).toNatClampNeg = 0 := rfl
theorem clm1 : (1 : Int32).toNatClampNeg = 1 := rfl
theorem clm2 : (2 : Int32).toNatClampNeg = 2 := rfl
theorem clm3 : (3 : Int32).toNatClampNeg = 3 := rfl
theorem clm4 : (4 : Int32).toNatClampNeg = 4 := rfl
theorem Vw.nm {σ : MS} {τ : XS} {K np : Nat} (h : Vw σ τ K np) (f g : Nat → Int32) : Vw (sA σ 49 f) (xA τ 305 g) K np := h
theorem Vw.nmX {σ : MS} {τ : XS} {K np : Nat} (h : Vw σ τ K np) (g : Nat → Int32) : Vw σ (xA τ 305 g) K np := h
theorem BkI.nmX {σ : MS} {τ : XS} {np ne : Nat} {bl : List Nat} (h : BkI σ τ np ne bl) (g : Nat → Int32) : BkI σ (xA τ 305 g) np ne bl := h
theorem PplI.nm {σ : MS} {τ : XS} {np : Nat} (h : PplI σ τ np) (f g : Nat → Int32) : PplI (sA σ 49 f) (xA τ 305 g) np := h
/-- the five names, as one function -/
def five (a b c d e : Int32) (k : Nat) : Int32 := if k = 0 then a else if k = 1 then b else if k = 2 then c else if k = 3 then d else e
theorem upd5 {f : Nat → Int32} {a b c d e : Int32} {k : Nat} (h : k < 5) : upd (upd (upd (upd (upd f 0 a) 1 b) 2 c) 3 d) 4 e k = five a b c d e k := by
  unfold five
  rcases (show k = 0 ∨ k = 1 ∨ k = 2 ∨ k = 3 ∨ k = 4 by omega) with rfl | rfl | rfl | rfl | rfl
  · rw [pk_un (by decide), pk_un (by decide), pk_un (by decide), pk_un (by decide), pk_us]; rfl
  · rw [pk_un (by decide), pk_un (by decide), pk_un (by decide), pk_us]; rfl
  · rw [pk_un (by decide), pk_un (by decide), pk_us]; rfl
  · rw [pk_un (by decide), pk_us]; rfl
  · rw [pk_us]; rfl
theorem upd5' {f : Nat → Int32} {a b c d e : Int32} {k : Nat} (h : k < 5) : upd (upd (upd (upd (upd f 4 e) 0 a) 1 b) 2 c) 3 d k = five a b c d e k := by
  unfold five
  rcases (show k = 0 ∨ k = 1 ∨ k = 2 ∨ k = 3 ∨ k = 4 by omega) with rfl | rfl | rfl | rfl | rfl
  · rw [pk_un (by decide), pk_un (by decide), pk_un (by decide), pk_us]; rfl
  · rw [pk_un (by decide), pk_un (by decide), pk_us]; rfl
  · rw [pk_un (by decide), pk_us]; rfl
  · rw [pk_us]; rfl
  · rw [pk_un (by decide), pk_un (by decide), pk_un (by decide), pk_un (by decide), pk_us]; rfl
theorem year_m1 {d : Int32} (hd : -1 ≤ d.toInt) : (if 0 ≤ d then d / 100 else 0) = d / 100 := by
  by_cases c : 0 ≤ d
  · rw [if_pos c]
  · rw [if_neg c]
    rw [i32_le, show (0 : Int32).toInt = 0 from rfl] at c
    have : d = -1 := i32_eq.mpr (by rw [lit_m1]; omega)
    rw [this]
    decide
/-- a rate is 0 to 3, where there is one -/
theorem rate_R {σ : MS} {τ : XS} {K np ne p : Nat} {bl : List Nat} (vw : Vw σ τ K np) (hB : BkI σ τ np ne bl) (hK : K ≤ ne) (hp : p < np) (day : Int32) : ∃ v, M_rateAt σ (nI p) day = some v ∧ Lv_rateOf τ (nI p) day = some v ∧ (v = -1 ∨ InR v 0 3) := by
  obtain ⟨v, e1, e2, e3⟩ := vw.rate hp day
  refine ⟨v, e1, e2, ?_⟩
  rcases e3 with g | ⟨e, he, hs, ev⟩
  · exact Or.inl g
  refine Or.inr ?_
  obtain ⟨s1, s2, s3, s4, s5⟩ := hs
  rcases hB.2.2.2.2.2.2.2.2.1 e (by omega) with ⟨g1, -⟩ | ⟨⟨k, hk, ek⟩, -, q, hq, -, -, -, -, g2, g3, -⟩
  · rw [g1] at s2; exact absurd s2 (by decide)
  · rw [ev]
    by_cases c : σ.2.1 8 e = 2
    · rw [if_pos c]; exact (g2 c).2.2
    · rw [if_neg c]
      refine g3 ?_
      rw [ek] at s2 c ⊢
      rcases (show k = 0 ∨ k = 1 ∨ k = 2 ∨ k = 3 ∨ k = 4 ∨ k = 5 ∨ k = 6 by omega) with rfl | rfl | rfl | rfl | rfl | rfl | rfl
      · exact absurd s2 (by decide)
      · exact absurd s2 (by decide)
      · exact absurd rfl c
      · rfl
      · exact absurd s2 (by decide)
      · exact absurd s2 (by decide)
      · exact absurd s2 (by decide)
theorem names_none (σ : MS) (τ : XS) {d : Int32} (hd : -1 ≤ d.toInt) (np : Nat) (hP : PplI σ τ np) : ∃ f g, M_namesOf σ (-1) d = some ((), sA σ 49 f) ∧ Lw_nameFor τ (-1) d = some ((), xA τ 305 g) ∧ (∀ k, k < 5 → f k = five 0 0 0 0 (d / 100) k) ∧ ∀ k, k < 5 → g k = five 0 0 0 0 (d / 100) k := by
  have e4 := year_m1 hd
  refine ⟨upd (upd (upd (upd (upd (σ.2.1 49) 0 0) 1 0) 2 0) 3 0) 4 (d / 100), upd (fillF 5 0 (τ.2.1 305)) 4 (d / 100), ?_, ?_, fun k hk => upd5 hk, ?_⟩
  · unfold M_namesOf M_namesOf_J15 M_namesOf_J36 M_namesOf_J46 M_namesOf_J67 M_namesOf_J88 M_namesOf_J109 M_namesOf_J127
    simp only [wr5_0, wr5_1, wr5_2, wr5_3, wr5_4, clm0, clm1, clm2, clm3, clm4, sA_get, sA_same, ↓reduceIte]
    rw [← e4]
    by_cases c : 0 ≤ d
    · rw [if_pos c, if_pos c]
    · rw [if_neg c, if_neg c]
  · unfold Lw_nameFor
    have hx : ∀ g, Bk_isPerson (xA τ 305 g) (-1) = some 0 := by
      intro g
      rw [Bk_isPerson_eq (τ := xA τ 305 g) (n := np) hP.2.2.1]
      unfold b01
      rw [if_neg fun h => absurd h.1 (by decide)]
    simp only [wr5_4, clm4, xA_get, xA_same, hx, bind_so, ↓reduceIte]
  · intro k hk
    unfold five
    rcases (show k = 0 ∨ k = 1 ∨ k = 2 ∨ k = 3 ∨ k = 4 by omega) with rfl | rfl | rfl | rfl | rfl
    · rw [pk_un (by decide), fillF_in (by decide)]; rfl
    · rw [pk_un (by decide), fillF_in (by decide)]; rfl
    · rw [pk_un (by decide), fillF_in (by decide)]; rfl
    · rw [pk_un (by decide), fillF_in (by decide)]; rfl
    · rw [pk_us]; rfl
theorem age_eq' {σ : MS} {τ : XS} {np p : Nat} {day : Int32} (hP : PplI σ τ np) (hp : p < np) (hd : -1 ≤ day.toInt ∧ day.toInt ≤ 10000) : ∃ v, M_ageOf σ (nI p) day = some v ∧ Bk_ageOn τ (nI p) day = some v ∧ InR v 0 100 := by
  by_cases c : 0 ≤ day.toInt
  · obtain ⟨v, e1, e2, e3⟩ := age_eq hP hp ⟨c, hd.2⟩
    refine ⟨v, e1, e2, ?_⟩
    have hb := (hP.2.2.2.2.2.2.2 p hp).2.1
    unfold DayOk at hb
    unfold InR
    rw [e3]
    split <;> omega
  · have h24 : p < 24 := by have := hP.1; omega
    have hb := (hP.2.2.2.2.2.2.2 p hp).2.1
    unfold DayOk at hb
    refine ⟨0, ?_, ?_, by decide, by decide⟩
    · unfold M_ageOf
      rw [rd_nI h24 (by decide), if_neg]
      rw [i32_le]; omega
    · unfold Bk_ageOn mxI
      have es : (day - σ.2.1 3 p).toInt = day.toInt - (σ.2.1 3 p).toInt := by
        rw [Int32.toInt_sub, show (2 : Nat) ^ 32 = 4294967296 from rfl]
        exact Int.bmod_eq_of_le (by omega) (by omega)
      rw [Bk_isPerson_eq hP.2.2.1, bind_so, b01_if, if_pos ⟨nI_le0 (by omega), by have := hP.1; rw [nI_ltI (by omega) (by omega)]; exact hp⟩, rd_nI h24 (by decide), hP.2.2.2.2.1, if_neg]
      · rfl
      · rw [i32_lt, es, show (0 : Int32).toInt = 0 from rfl]; omega
theorem names_some {σ : MS} {τ : XS} {K np ne p : Nat} {bl : List Nat} (vw : Vw σ τ K np) (hP : PplI σ τ np) (hB : BkI σ τ np ne bl) (hK : K ≤ ne) (hp : p < np) {d : Int32} (hd : -1 ≤ d.toInt ∧ d.toInt ≤ 10000) : ∃ (f g : Nat → Int32) (a b c w : Int32), M_namesOf σ (nI p) d = some ((), sA σ 49 f) ∧ Lw_nameFor τ (nI p) d = some ((), xA τ 305 g) ∧ (∀ k, k < 5 → f k = five a b c w (d / 100) k) ∧ (∀ k, k < 5 → g k = five a b c w (d / 100) k) ∧ InR a 0 3 ∧ InR c 0 100 ∧ InR w 0 200 := by
  have hP1 := hP.1
  have e4 := year_m1 hd.1
  have pn : nI p ≠ -1 := nI_ne_m1 (by omega)
  have hw := vw
  obtain ⟨hK2, -, hk, -, -, ha, -⟩ := hw
  have g4 : fillF 5 0 (τ.2.1 305) = fillF 5 0 (τ.2.1 305) := rfl
  obtain ⟨v, r1, r2, r3⟩ := rate_R (vw.nmX (upd (fillF 5 0 (τ.2.1 305)) 4 (d / 100))) (hB.nmX (upd (fillF 5 0 (τ.2.1 305)) 4 (d / 100))) hK hp d
  obtain ⟨f, f1, f2⟩ := (vw.nmX (upd (fillF 5 0 (τ.2.1 305)) 4 (d / 100))).first hp d
  have rate : ∃ a : Int32, InR a 0 3 ∧ a = mxI 0 v ∧ ∀ s0 : Int32, (if v = -1 then M_namesOf_J36 σ (nI p) d s0 0 else (M_rateAt σ (nI p) d).bind fun r5 => (M_namesOf_J46 σ (nI p) d s0 r5 0)) = M_namesOf_J46 σ (nI p) d s0 a 0 := by
    rcases r3 with g | g
    · exact ⟨0, ⟨by decide, by decide⟩, by rw [g]; rfl, fun s0 => by rw [if_pos g]; rfl⟩
    · refine ⟨v, g, ?_, fun s0 => ?_⟩
      · unfold mxI
        obtain ⟨y1, y2⟩ := g
        by_cases c : 0 < v
        · rw [if_pos c]
        · rw [if_neg c]
          rw [i32_lt, show (0 : Int32).toInt = 0 from rfl] at c
          exact i32_eq.mpr (by rw [show (0 : Int32).toInt = 0 from rfl]; omega)
      · rw [if_neg (fun e => by have := g.1; rw [e, lit_m1] at this; omega), r1, bind_so]
  obtain ⟨a, a1, a2, a3⟩ := rate
  -- the rest of the row, once the years of membership are b
  have tail : ∀ b : Int32, ∃ (f g : Nat → Int32) (c w : Int32), M_namesOf_J67 (sA σ 49 (upd (σ.2.1 49) 0 a)) (nI p) d b 1 = some ((), sA σ 49 f) ∧ Lw_nameFor_J84 (xA τ 305 (upd (upd (fillF 5 0 (τ.2.1 305)) 4 (d / 100)) 0 a)) (nI p) d b 1 = some ((), xA τ 305 g) ∧ (∀ k, k < 5 → f k = five a b c w (d / 100) k) ∧ (∀ k, k < 5 → g k = five a b c w (d / 100) k) ∧ InR c 0 100 ∧ InR w 0 200 := by
    intro b
    obtain ⟨c, c1, c2, c3⟩ := age_eq' (hP.nm (upd (upd (σ.2.1 49) 0 a) 1 b) (upd (upd (upd (fillF 5 0 (τ.2.1 305)) 4 (d / 100)) 0 a) 1 b)) hp hd
    obtain ⟨n, hn, w1, w2⟩ := (vw.nm (upd (upd (upd (σ.2.1 49) 0 a) 1 b) 2 c) (upd (upd (upd (upd (fillF 5 0 (τ.2.1 305)) 4 (d / 100)) 0 a) 1 b) 2 c)).wedN hp d
    refine ⟨upd (upd (upd (upd (upd (σ.2.1 49) 0 a) 1 b) 2 c) 3 (nI n)) 4 (d / 100), upd (upd (upd (upd (upd (fillF 5 0 (τ.2.1 305)) 4 (d / 100)) 0 a) 1 b) 2 c) 3 (nI n), c, nI n, ?_, ?_, fun k hk => upd5 hk, fun k hk => upd5' hk, c3, ⟨by rw [nI_i (by omega)]; omega, by rw [nI_i (by omega)]; omega⟩⟩
    · unfold M_namesOf_J67 M_namesOf_J88 M_namesOf_J109 M_namesOf_J127
      simp only [wr5_0, wr5_1, wr5_2, wr5_3, wr5_4, clm0, clm1, clm2, clm3, clm4, sA_get, sA_same, if_neg pn, c1, bind_so, w1]
      rw [← e4]
      by_cases cc : 0 ≤ d
      · rw [if_pos cc, if_pos cc]
      · rw [if_neg cc, if_neg cc]
    · unfold Lw_nameFor_J84
      simp only [wr5_0, wr5_1, wr5_2, wr5_3, wr5_4, clm0, clm1, clm2, clm3, clm4, xA_get, xA_same, c2, bind_so, w2]
  have step46 : ∀ (a3 b : Int32), (if a3 = -1 then (0 : Int32) else (d - a3) / 100) = b → M_namesOf_J46 σ (nI p) d a3 a 0 = M_namesOf_J67 (sA σ 49 (upd (σ.2.1 49) 0 a)) (nI p) d b 1 := by
    intro a3 b hb
    unfold M_namesOf_J46
    rw [wr5_0, clm0, ← hb]
    by_cases c : a3 = -1
    · rw [if_pos c, if_pos c]
    · rw [if_neg c, if_neg c]
  have M0 : ∀ r1, M_firstJoined σ (nI p) d = some r1 → M_namesOf σ (nI p) d = M_namesOf_J46 σ (nI p) d r1 a 0 := by
    intro r0 h0
    unfold M_namesOf M_namesOf_J15
    rw [if_neg pn, h0, bind_so, if_neg pn, r1, bind_so]
    rw [r1] at a3
    exact a3 r0
  have isP : Bk_isPerson (xA τ 305 (upd (fillF 5 0 (τ.2.1 305)) 4 (d / 100))) (nI p) = some 1 := by
    rw [Bk_isPerson_eq (τ := xA τ 305 (upd (fillF 5 0 (τ.2.1 305)) 4 (d / 100))) (n := np) hP.2.2.1]
    unfold b01
    rw [if_pos ⟨nI_le0 (by omega), by rw [nI_ltI (by omega) (by omega)]; exact hp⟩]
  have X0 : Lw_nameFor τ (nI p) d = if 0 ≤ f then rd (τ.2.1 110) 200 f fun v5 => Lw_nameFor_J84 (xA τ 305 (upd (upd (fillF 5 0 (τ.2.1 305)) 4 (d / 100)) 0 a)) (nI p) d ((d - v5) / 100) 1 else Lw_nameFor_J84 (xA τ 305 (upd (upd (fillF 5 0 (τ.2.1 305)) 4 (d / 100)) 0 a)) (nI p) d 0 1 := by
    unfold Lw_nameFor
    simp only [wr5_0, wr5_4, clm0, clm4, xA_get, xA_same, isP, bind_so, if_neg (show ¬ (1 : Int32) = 0 by decide), f1, r2, ← a2, xA_ne (show (110 : Nat) ≠ 305 by decide)]
  rcases f2 with ⟨rfl, f3, -⟩ | ⟨e, rfl, he, hj, f3⟩
  · obtain ⟨f, g, c, w, t1, t2, t3, t4, t5, t6⟩ := tail 0
    refine ⟨f, g, a, 0, c, w, ?_, ?_, t3, t4, a1, t5, t6⟩
    · rw [M0 _ f3, step46 _ 0 (by rw [if_pos rfl])]; exact t1
    · rw [X0, if_neg (by decide)]; exact t2
  · have he2 : e < 200 := by omega
    have n1 : σ.2.1 11 e ≠ -1 := by
      intro g
      rcases hB.2.2.2.2.2.2.2.2.1 e (by omega) with ⟨g1, -⟩ | ⟨-, g2, -⟩
      · rw [hj.2.1] at g1; exact absurd g1 (by decide)
      · have := g2.1; rw [g, lit_m1] at this; omega
    obtain ⟨f, g, c, w, t1, t2, t3, t4, t5, t6⟩ := tail ((d - σ.2.1 11 e) / 100)
    refine ⟨f, g, a, _, c, w, ?_, ?_, t3, t4, a1, t5, t6⟩
    · rw [M0 _ f3, step46 _ ((d - σ.2.1 11 e) / 100) (by rw [if_neg n1])]; exact t1
    · rw [X0, if_pos (nI_le0 (by omega)), rd_nI he2 (by decide), hB.2.2.2.2.2.2.1]; exact t2
