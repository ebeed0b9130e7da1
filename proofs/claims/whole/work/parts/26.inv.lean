/-! the invariant: what lasts from call to call (but for the acts) -/
/-- the reference's fields that a lookup changes: known, text, spot, isWrong; stands, dies, names -/
def SameM (σ σ' : MS) : Prop := (∀ j, j ≠ 45 → j ≠ 46 → j ≠ 47 → j ≠ 48 → σ'.1 j = σ.1 j) ∧ (∀ j, j ≠ 43 → j ≠ 44 → j ≠ 49 → σ'.2.1 j = σ.2.1 j) ∧ σ'.2.2 = σ.2.2
/-- the class's: foundClause, foundValue, foundDay; kept, names, stack, dies, from, till, list -/
def SameX (τ τ' : XS) : Prop := (∀ j, j ≠ 307 → j ≠ 308 → j ≠ 309 → τ'.1 j = τ.1 j) ∧ (∀ j, j ≠ 206 → j ≠ 305 → j ≠ 306 → j ≠ 401 → j ≠ 402 → j ≠ 403 → j ≠ 404 → τ'.2.1 j = τ.2.1 j) ∧ τ'.2.2 = τ.2.2
theorem SameM.rfl {σ : MS} : SameM σ σ := ⟨fun _ _ _ _ _ => Eq.refl _, fun _ _ _ _ => Eq.refl _, Eq.refl _⟩
theorem SameX.rfl {τ : XS} : SameX τ τ := ⟨fun _ _ _ _ => Eq.refl _, fun _ _ _ _ _ _ _ _ => Eq.refl _, Eq.refl _⟩
theorem SameM.trans {a b c : MS} (h : SameM a b) (g : SameM b c) : SameM a c := ⟨fun j h1 h2 h3 h4 => (g.1 j h1 h2 h3 h4).trans (h.1 j h1 h2 h3 h4), fun j h1 h2 h3 => (g.2.1 j h1 h2 h3).trans (h.2.1 j h1 h2 h3), g.2.2.trans h.2.2⟩
theorem SameX.trans {a b c : XS} (h : SameX a b) (g : SameX b c) : SameX a c := ⟨fun j h1 h2 h3 => (g.1 j h1 h2 h3).trans (h.1 j h1 h2 h3), fun j h1 h2 h3 h4 h5 h6 h7 => (g.2.1 j h1 h2 h3 h4 h5 h6 h7).trans (h.2.1 j h1 h2 h3 h4 h5 h6 h7), g.2.2.trans h.2.2⟩
theorem SameM.look {σ : MS} {K : Nat} {s d : Nat → Int32} : SameM σ (lookM σ K s d) := ⟨fun j h1 _ _ _ => lookM_1 h1, fun j h1 h2 _ => lookM_2 ⟨h1, h2⟩, Eq.refl _⟩
theorem SameX.look {τ : XS} {d a t l : Nat → Int32} : SameX τ (lookX τ d a t l) := ⟨fun _ _ _ _ => Eq.refl _, fun j _ _ _ h4 h5 h6 h7 => lookX_2 (by omega), Eq.refl _⟩
def DayOk (d : Int32) : Prop := 0 ≤ d.toInt ∧ d.toInt < 10000
def InR (v : Int32) (a b : Int) : Prop := a ≤ v.toInt ∧ v.toInt ≤ b
/-- persons -/
def PplI (σ : MS) (τ : XS) (np : Nat) : Prop := np ≤ 24 ∧ σ.1 1 = nI np ∧ τ.1 104 = nI np ∧ τ.2.1 100 = σ.2.1 2 ∧ τ.2.1 101 = σ.2.1 3 ∧ τ.2.1 102 = σ.2.1 4 ∧ τ.2.1 103 = σ.2.1 5 ∧ ∀ p, p < np → (σ.2.1 2 p = 0 ∨ σ.2.1 2 p = 1) ∧ DayOk (σ.2.1 3 p) ∧ (σ.2.1 4 p = -1 ∨ ∃ q, q < np ∧ σ.2.1 4 p = nI q ∧ σ.2.1 2 q = 0 ∧ (σ.2.1 3 q).toInt < (σ.2.1 3 p).toInt) ∧ (σ.2.1 5 p = -1 ∨ ∃ q, q < np ∧ σ.2.1 5 p = nI q ∧ σ.2.1 2 q = 1)
/-- one entry, by its kind -/
def EntI (σ : MS) (np i : Nat) : Prop :=
  (σ.2.1 8 i = 7 ∧ (∃ j, j < i ∧ σ.2.1 9 i = nI j ∧ σ.2.1 8 j ≠ 7)) ∨
  ((∃ k, k < 7 ∧ σ.2.1 8 i = nI k) ∧ DayOk (σ.2.1 11 i) ∧ ∃ p, p < np ∧ σ.2.1 9 i = nI p ∧ (σ.2.1 3 p).toInt ≤ (σ.2.1 11 i).toInt ∧
    (σ.2.1 8 i ≠ 0 → σ.2.1 2 p = 0) ∧
    (σ.2.1 8 i = 1 → ∃ w, w < np ∧ σ.2.1 10 i = nI w ∧ σ.2.1 2 w = 1 ∧ (σ.2.1 3 w).toInt ≤ (σ.2.1 11 i).toInt) ∧
    (σ.2.1 8 i = 2 → 0 ≤ (σ.2.1 10 i).toInt ∧ (σ.2.1 10 i).toInt < (σ.1 6).toInt ∧ InR (σ.2.1 12 i) 0 3) ∧
    (σ.2.1 8 i = 3 → InR (σ.2.1 10 i) 0 3) ∧ (σ.2.1 8 i = 6 → InR (σ.2.1 10 i) 1 9999))
/-- the entries, and the class's two indexes over them -/
def BkI (σ : MS) (τ : XS) (np ne : Nat) (bl : List Nat) : Prop := ne ≤ 200 ∧ σ.1 7 = nI ne ∧ τ.1 113 = nI ne ∧ τ.2.1 107 = σ.2.1 8 ∧ τ.2.1 108 = σ.2.1 9 ∧ τ.2.1 109 = σ.2.1 10 ∧ τ.2.1 110 = σ.2.1 11 ∧ τ.2.1 111 = σ.2.1 12 ∧
  (∀ i, i < ne → EntI σ np i) ∧
  (∀ j, j < ne → (τ.2.1 112 j = 200 ∧ ∀ i, i < ne → σ.2.1 8 i = 7 → σ.2.1 9 i ≠ nI j) ∨ ∃ i, i < ne ∧ j < i ∧ τ.2.1 112 j = nI i ∧ σ.2.1 8 i = 7 ∧ σ.2.1 9 i = nI j ∧ ∀ i', i' < ne → σ.2.1 8 i' = 7 → σ.2.1 9 i' = nI j → i' = i) ∧
  bl.length ≤ 200 ∧ τ.1 115 = nI bl.length ∧ (∀ (k : Nat) (h : k < bl.length), τ.2.1 114 k = nI bl[k]) ∧ bl.Nodup ∧ bl.Pairwise (ltD (σ.2.1 11)) ∧ (∀ e, e ∈ bl ↔ e < ne ∧ σ.2.1 8 e ≠ 7) ∧
  (∃ c : Nat, c ≤ ne ∧ σ.1 13 = nI c ∧ τ.1 106 = (if c = 0 then 0 else 1) ∧ (c = 0 → ∀ i, i < ne → σ.2.1 8 i ≠ 2)) ∧
  InR (σ.1 6) 0 10 ∧ τ.1 105 = σ.1 6
/-- the rest: tape, loans, tables, rows, steps, the told year -/
def MisI (σ : MS) (τ : XS) (np : Nat) : Prop :=
  (∃ nt, nt ≤ 200 ∧ σ.1 15 = nI nt ∧ τ.1 701 = nI nt) ∧ τ.2.1 700 = σ.2.1 14 ∧ (∀ i, InR (σ.2.1 14 i) 0 255) ∧
  (InR (σ.1 26) 0 99999 ∧ τ.1 205 = σ.1 26) ∧
  (∃ nl, nl ≤ 12 ∧ σ.1 27 = nI nl ∧ τ.1 500 = nI nl ∧ τ.2.1 501 = σ.2.1 28 ∧ τ.2.1 502 = σ.2.1 29 ∧ τ.2.1 503 = σ.2.1 30 ∧ τ.2.1 504 = σ.2.1 31 ∧ ∀ l, l < nl → InR (σ.2.1 28 l) 1 9999 ∧ InR (σ.2.1 29 l) 0 99 ∧ InR (σ.2.1 30 l) 1 30 ∧ InR (σ.2.1 31 l) 0 20 ∧ ((σ.2.1 32 l = 10000 ∧ τ.2.1 505 l = 100) ∨ (InR (σ.2.1 32 l) 0 99 ∧ τ.2.1 505 l = σ.2.1 32 l))) ∧
  (τ.2.1 600 = σ.2.1 33 ∧ (∀ a, a < 100 → InR (σ.2.1 33 a) 0 1000) ∧ σ.2.1 33 99 = 1000) ∧ (InR (σ.1 34) 0 20 ∧ τ.1 601 = σ.1 34) ∧
  (∃ nr, nr ≤ 4 ∧ σ.1 35 = nI nr ∧ τ.1 901 = nI nr) ∧ τ.2.1 902 = σ.2.1 36 ∧ τ.2.1 903 = σ.2.1 37 ∧ τ.2.1 904 = σ.2.1 38 ∧ (∀ r, r < 4 → ∃ nd, nd ≤ 8 ∧ σ.2.1 36 r = nI nd ∧ ∀ k, k < nd → (∃ p, p < np ∧ σ.2.1 37 (8 * r + k) = nI p) ∧ InR (σ.2.1 38 (8 * r + k)) 0 99) ∧
  (∃ ns, ns ≤ 4 ∧ σ.1 39 = nI ns ∧ τ.1 905 = nI ns ∧ ∀ k, k < ns → (σ.2.1 40 k = 0 ∨ σ.2.1 40 k = 1 ∨ σ.2.1 40 k = 3) ∧ InR (σ.2.1 41 k) 0 300) ∧ τ.2.1 906 = σ.2.1 40 ∧ τ.2.1 907 = σ.2.1 41 ∧
  τ.2.2.1 = σ.2.2 ∧ (∀ k, k < 4 → σ.2.1 51 k = 100) ∧ τ.1 207 = 0 ∧ σ.1 50 = 0
theorem PplI.same {σ σ' : MS} {τ τ' : XS} {np : Nat} (h : PplI σ τ np) (hm : SameM σ σ') (hx : SameX τ τ') : PplI σ' τ' np := by
  unfold PplI at h ⊢
  rw [hm.1 1 (by decide) (by decide) (by decide) (by decide), hx.1 104 (by decide) (by decide) (by decide), hm.2.1 2 (by decide) (by decide) (by decide), hm.2.1 3 (by decide) (by decide) (by decide), hm.2.1 4 (by decide) (by decide) (by decide), hm.2.1 5 (by decide) (by decide) (by decide), hx.2.1 100 (by decide) (by decide) (by decide) (by decide) (by decide) (by decide) (by decide), hx.2.1 101 (by decide) (by decide) (by decide) (by decide) (by decide) (by decide) (by decide), hx.2.1 102 (by decide) (by decide) (by decide) (by decide) (by decide) (by decide) (by decide), hx.2.1 103 (by decide) (by decide) (by decide) (by decide) (by decide) (by decide) (by decide)]
  exact h
theorem EntI.same {σ σ' : MS} {np i : Nat} (h : EntI σ np i) (hm : SameM σ σ') : EntI σ' np i := by
  unfold EntI at h ⊢
  rw [hm.1 6 (by decide) (by decide) (by decide) (by decide), hm.2.1 2 (by decide) (by decide) (by decide), hm.2.1 3 (by decide) (by decide) (by decide), hm.2.1 8 (by decide) (by decide) (by decide), hm.2.1 9 (by decide) (by decide) (by decide), hm.2.1 10 (by decide) (by decide) (by decide), hm.2.1 11 (by decide) (by decide) (by decide), hm.2.1 12 (by decide) (by decide) (by decide)]
  exact h
theorem BkI.same {σ σ' : MS} {τ τ' : XS} {np ne : Nat} {bl : List Nat} (h : BkI σ τ np ne bl) (hm : SameM σ σ') (hx : SameX τ τ') : BkI σ' τ' np ne bl := by
  obtain ⟨h1, h2, h3, h4, h5, h6, h7, h8, h9, h10, h11, h12, h13, h14, h15, h16, h17, h18, h19⟩ := h
  have x := fun j (h1 : j ≠ 206) (h2 : j ≠ 305) (h3 : j ≠ 306) (h4 : j ≠ 401) (h5 : j ≠ 402) (h6 : j ≠ 403) (h7 : j ≠ 404) => hx.2.1 j h1 h2 h3 h4 h5 h6 h7
  have m := fun j (h1 : j ≠ 43) (h2 : j ≠ 44) (h3 : j ≠ 49) => hm.2.1 j h1 h2 h3
  have m1 := fun j (h1 : j ≠ 45) (h2 : j ≠ 46) (h3 : j ≠ 47) (h4 : j ≠ 48) => hm.1 j h1 h2 h3 h4
  have x1 := fun j (h1 : j ≠ 307) (h2 : j ≠ 308) (h3 : j ≠ 309) => hx.1 j h1 h2 h3
  refine ⟨h1, ?_, ?_, ?_, ?_, ?_, ?_, ?_, fun i hi => (h9 i hi).same hm, ?_, h11, ?_, ?_, h14, ?_, ?_, ?_, ?_, ?_⟩
  · rw [m1 7 (by decide) (by decide) (by decide) (by decide)]; exact h2
  · rw [x1 113 (by decide) (by decide) (by decide)]; exact h3
  · rw [x 107 (by decide) (by decide) (by decide) (by decide) (by decide) (by decide) (by decide), m 8 (by decide) (by decide) (by decide)]; exact h4
  · rw [x 108 (by decide) (by decide) (by decide) (by decide) (by decide) (by decide) (by decide), m 9 (by decide) (by decide) (by decide)]; exact h5
  · rw [x 109 (by decide) (by decide) (by decide) (by decide) (by decide) (by decide) (by decide), m 10 (by decide) (by decide) (by decide)]; exact h6
  · rw [x 110 (by decide) (by decide) (by decide) (by decide) (by decide) (by decide) (by decide), m 11 (by decide) (by decide) (by decide)]; exact h7
  · rw [x 111 (by decide) (by decide) (by decide) (by decide) (by decide) (by decide) (by decide), m 12 (by decide) (by decide) (by decide)]; exact h8
  · rw [x 112 (by decide) (by decide) (by decide) (by decide) (by decide) (by decide) (by decide), m 8 (by decide) (by decide) (by decide), m 9 (by decide) (by decide) (by decide)]; exact h10
  · rw [x1 115 (by decide) (by decide) (by decide)]; exact h12
  · rw [x 114 (by decide) (by decide) (by decide) (by decide) (by decide) (by decide) (by decide)]; exact h13
  · rw [m 11 (by decide) (by decide) (by decide)]; exact h15
  · rw [m 8 (by decide) (by decide) (by decide)]; exact h16
  · rw [m1 13 (by decide) (by decide) (by decide) (by decide), x1 106 (by decide) (by decide) (by decide), m 8 (by decide) (by decide) (by decide)]; exact h17
  · rw [m1 6 (by decide) (by decide) (by decide) (by decide)]; exact h18
  · rw [m1 6 (by decide) (by decide) (by decide) (by decide), x1 105 (by decide) (by decide) (by decide)]; exact h19
theorem MisI.same {σ σ' : MS} {τ τ' : XS} {np : Nat} (h : MisI σ τ np) (hm : SameM σ σ') (hx : SameX τ τ') : MisI σ' τ' np := by
  unfold MisI at h ⊢
  simp only [hm.1 15 (by decide) (by decide) (by decide) (by decide), hm.1 26 (by decide) (by decide) (by decide) (by decide), hm.1 27 (by decide) (by decide) (by decide) (by decide), hm.1 34 (by decide) (by decide) (by decide) (by decide), hm.1 35 (by decide) (by decide) (by decide) (by decide), hm.1 39 (by decide) (by decide) (by decide) (by decide), hm.1 50 (by decide) (by decide) (by decide) (by decide), hx.1 701 (by decide) (by decide) (by decide), hx.1 205 (by decide) (by decide) (by decide), hx.1 500 (by decide) (by decide) (by decide), hx.1 601 (by decide) (by decide) (by decide), hx.1 901 (by decide) (by decide) (by decide), hx.1 905 (by decide) (by decide) (by decide), hx.1 207 (by decide) (by decide) (by decide), hm.2.1 14 (by decide) (by decide) (by decide), hm.2.1 28 (by decide) (by decide) (by decide), hm.2.1 29 (by decide) (by decide) (by decide), hm.2.1 30 (by decide) (by decide) (by decide), hm.2.1 31 (by decide) (by decide) (by decide), hm.2.1 32 (by decide) (by decide) (by decide), hm.2.1 33 (by decide) (by decide) (by decide), hm.2.1 36 (by decide) (by decide) (by decide), hm.2.1 37 (by decide) (by decide) (by decide), hm.2.1 38 (by decide) (by decide) (by decide), hm.2.1 40 (by decide) (by decide) (by decide), hm.2.1 41 (by decide) (by decide) (by decide), hm.2.1 51 (by decide) (by decide) (by decide), hx.2.1 700 (by decide) (by decide) (by decide) (by decide) (by decide) (by decide) (by decide), hx.2.1 501 (by decide) (by decide) (by decide) (by decide) (by decide) (by decide) (by decide), hx.2.1 502 (by decide) (by decide) (by decide) (by decide) (by decide) (by decide) (by decide), hx.2.1 503 (by decide) (by decide) (by decide) (by decide) (by decide) (by decide) (by decide), hx.2.1 504 (by decide) (by decide) (by decide) (by decide) (by decide) (by decide) (by decide), hx.2.1 505 (by decide) (by decide) (by decide) (by decide) (by decide) (by decide) (by decide), hx.2.1 600 (by decide) (by decide) (by decide) (by decide) (by decide) (by decide) (by decide), hx.2.1 902 (by decide) (by decide) (by decide) (by decide) (by decide) (by decide) (by decide), hx.2.1 903 (by decide) (by decide) (by decide) (by decide) (by decide) (by decide) (by decide), hx.2.1 904 (by decide) (by decide) (by decide) (by decide) (by decide) (by decide) (by decide), hx.2.1 906 (by decide) (by decide) (by decide) (by decide) (by decide) (by decide) (by decide), hx.2.1 907 (by decide) (by decide) (by decide) (by decide) (by decide) (by decide) (by decide), hm.2.2, hx.2.2]
  exact h
/-- an entry that a sound book has is a person's -/
theorem EntI.dat {σ : MS} {np i : Nat} (h : EntI σ np i) (h7 : σ.2.1 8 i ≠ 7) : (∃ k, k < 7 ∧ σ.2.1 8 i = nI k) ∧ DayOk (σ.2.1 11 i) ∧ ∃ p, p < np ∧ σ.2.1 9 i = nI p ∧ (σ.2.1 3 p).toInt ≤ (σ.2.1 11 i).toInt ∧ (σ.2.1 8 i ≠ 0 → σ.2.1 2 p = 0) ∧ (σ.2.1 8 i = 1 → ∃ w, w < np ∧ σ.2.1 10 i = nI w ∧ σ.2.1 2 w = 1 ∧ (σ.2.1 3 w).toInt ≤ (σ.2.1 11 i).toInt) := by
  rcases h with g | ⟨g1, g2, p, g3, g4, g5, g6, g7, -⟩
  · exact absurd g.1 h7
  · exact ⟨g1, g2, p, g3, g4, g5, g6, g7⟩
/-- both views, by the first K entries -/
theorem view_of {σ : MS} {τ : XS} {np ne K : Nat} {bl : List Nat} (hP : PplI σ τ np) (hB : BkI σ τ np ne bl) (hK : K ≤ ne) {e : Int32} (he : (e = -1 ∧ K = ne) ∨ (e ≠ -1 ∧ e = nI K)) : ∃ s d d' a t l, M_looks σ e = some ((), lookM σ K s d) ∧ Lv_readBook τ e = some ((), lookX τ d' a t l) ∧ (∀ i, i < K → (s i ≠ 0 ↔ StM σ K i)) ∧ Vw (lookM σ K s d) (lookX τ d' a t l) K np := by
  obtain ⟨p1, p2, p3, p4, p5, p6, p7, p8⟩ := hP
  obtain ⟨b1, b2, b3, b4, b5, b6, b7, b8, b9, b10, b11, b12, b13, b14, b15, b16, b17, b18, b19⟩ := hB
  have hM : BookM σ K np := ⟨by omega, p1, p2, fun i hi h7 => by
    rcases b9 i (by omega) with ⟨-, j, hj, ej, -⟩ | ⟨⟨k, hk, ek⟩, -⟩
    · exact ⟨j, by omega, ej⟩
    · rw [ek] at h7
      rw [show (7 : Int32) = nI 7 from rfl, nI_eq (by omega) (by omega)] at h7; omega, fun i hi h0 => by
    obtain ⟨-, -, p, hp, ep, -⟩ := (b9 i (by omega)).dat (by rw [h0]; decide)
    exact ⟨p, hp, ep⟩⟩
  have hX : BookX τ K bl := by
    refine ⟨by omega, b11, b12, b13, fun e he => by have := (b16 e).mp he; omega, b14, by rw [b7]; exact b15, fun i hi h7 => (b16 i).mpr ⟨by omega, by rw [← b4]; exact h7⟩, fun i hi h7 => ?_⟩
    rw [b4] at h7
    obtain ⟨-, -, p, hp, ep, -, hs, hw⟩ := (b9 i (by omega)).dat h7
    refine ⟨p, by omega, by rw [b5]; exact ep, fun h1 => ?_⟩
    rw [b4] at h1
    obtain ⟨w, hw1, hw2, hw3, -⟩ := hw h1
    refine ⟨w, by omega, by rw [b6]; exact hw2, fun c => ?_⟩
    subst c
    have := hs (by rw [h1]; decide)
    rw [hw3] at this
    exact absurd this (by decide)
  have st : ∀ i, i < K → (StM σ K i ↔ StX τ K i) := by
    intro i hi
    unfold StM StX
    rw [b4]
    refine and_congr_right fun _ => and_congr_right fun _ => ?_
    rcases b10 i (by omega) with ⟨g1, g2⟩ | ⟨i0, g1, g2, g3, g4, g5, g6⟩
    · rw [g1]
      exact ⟨fun _ g => by rw [show (200 : Int32) = nI 200 from rfl, nI_ltI (by omega) (by omega)] at g; omega, fun _ j hj => g2 j (by omega)⟩
    · rw [g3, nI_ltI (by omega) (by omega)]
      constructor
      · exact fun g c => g i0 c g4 g5
      · intro g j hj h7 h9
        exact g (by rw [← g6 j (by omega) h7 h9]; exact hj)
  obtain ⟨s, d, m1, m2, m3⟩ := M_looks_spec hM (e := e) (by rcases he with ⟨g1, g2⟩ | ⟨g1, g2⟩; exact Or.inl ⟨g1, by rw [b2, g2]⟩; exact Or.inr ⟨g1, g2⟩)
  obtain ⟨d', a, t, l, x1, x2, x3⟩ := Lv_readBook_spec hX (e := e) (by
    rcases he with ⟨g1, g2⟩ | ⟨g1, g2⟩
    · exact Or.inl ⟨by rw [g1]; decide, by rw [b3, g2]⟩
    · exact Or.inr ⟨ne, b3, b1, hK, g2⟩) (fun i hi h0 => by
    rw [b4] at h0
    obtain ⟨-, -, p, hp, ep, -⟩ := (b9 i (by omega)).dat (by rw [h0]; decide)
    exact ⟨p, by omega, by rw [b5]; exact ep⟩)
  refine ⟨s, d, d', a, t, l, m1, x1, m2, by omega, p1, lookM_K, by rw [lookM_1 (by decide)]; exact p2, p3, ?_, ?_, ?_, ?_⟩
  · simp only [lookX_2 (show (100 : Nat) < 401 ∨ _ from Or.inl (by decide)), lookX_2 (show (101 : Nat) < 401 ∨ _ from Or.inl (by decide)), lookX_2 (show (102 : Nat) < 401 ∨ _ from Or.inl (by decide)), lookX_2 (show (103 : Nat) < 401 ∨ _ from Or.inl (by decide)), lookX_2 (show (107 : Nat) < 401 ∨ _ from Or.inl (by decide)), lookX_2 (show (108 : Nat) < 401 ∨ _ from Or.inl (by decide)), lookX_2 (show (109 : Nat) < 401 ∨ _ from Or.inl (by decide)), lookX_2 (show (110 : Nat) < 401 ∨ _ from Or.inl (by decide)), lookX_2 (show (111 : Nat) < 401 ∨ _ from Or.inl (by decide)), lookM_2 (show (2 : Nat) ≠ 43 ∧ (2 : Nat) ≠ 44 by decide), lookM_2 (show (3 : Nat) ≠ 43 ∧ (3 : Nat) ≠ 44 by decide), lookM_2 (show (4 : Nat) ≠ 43 ∧ (4 : Nat) ≠ 44 by decide), lookM_2 (show (5 : Nat) ≠ 43 ∧ (5 : Nat) ≠ 44 by decide), lookM_2 (show (8 : Nat) ≠ 43 ∧ (8 : Nat) ≠ 44 by decide), lookM_2 (show (9 : Nat) ≠ 43 ∧ (9 : Nat) ≠ 44 by decide), lookM_2 (show (10 : Nat) ≠ 43 ∧ (10 : Nat) ≠ 44 by decide), lookM_2 (show (11 : Nat) ≠ 43 ∧ (11 : Nat) ≠ 44 by decide), lookM_2 (show (12 : Nat) ≠ 43 ∧ (12 : Nat) ≠ 44 by decide)]
    exact ⟨p4, p5, p6, p7, b4, b5, b6, b7, b8⟩
  · intro p hp
    rw [lookX_d, lookM_d, m3 p hp, x2 p (by omega), b4, b5, b7]
    exact (dieF_congr K st).symm
  · intro i hi hs
    rw [lookM_s] at hs
    have g := (m2 i hi).mp hs
    simp only [lookM_2 (show (2 : Nat) ≠ 43 ∧ (2 : Nat) ≠ 44 by decide), lookM_2 (show (8 : Nat) ≠ 43 ∧ (8 : Nat) ≠ 44 by decide), lookM_2 (show (9 : Nat) ≠ 43 ∧ (9 : Nat) ≠ 44 by decide), lookM_2 (show (10 : Nat) ≠ 43 ∧ (10 : Nat) ≠ 44 by decide), lookM_2 (show (11 : Nat) ≠ 43 ∧ (11 : Nat) ≠ 44 by decide)]
    obtain ⟨k1, k2, p, hp, ep, -, hs0, hw⟩ := (b9 i (by omega)).dat g.2.1
    refine ⟨k1, ⟨p, hp, ep, fun h1 => ⟨hs0 (by rw [h1]; decide), ?_⟩⟩, k2.1, k2.2⟩
    obtain ⟨w, hw1, hw2, hw3, -⟩ := hw h1
    exact ⟨w, hw1, hw2, hw3⟩
  · intro p hp
    obtain ⟨y1, y2, y3, y4⟩ := x3 p (by omega)
    have y5 : (flL (RelX τ K p) bl).length ≤ cntX τ K K p := y3
    have tot := cntX_tot hX K (Nat.le_refl _)
    have mono := sumN_mono (f := cntX τ K K) (show p < 24 by omega)
    refine ⟨sumN (cntX τ K K) p, flL (RelX τ K p) bl, ⟨by omega, by rw [lookX_a]; exact y1, by rw [lookX_t]; exact y2, by omega, fun x hx => by rw [lookX_l]; exact y4 x hx, fun e he => by have := (b16 e).mp (flL_mem.mp he).1; omega, ?_⟩, fun e => ?_⟩
    · rw [lookX_2 (by decide), b7]
      exact List.Pairwise.sublist List.filter_sublist b15
    · rw [flL_mem, b16]
      unfold RelX Own
      simp only [lookM_2 (show (8 : Nat) ≠ 43 ∧ (8 : Nat) ≠ 44 by decide), lookM_2 (show (9 : Nat) ≠ 43 ∧ (9 : Nat) ≠ 44 by decide), lookM_2 (show (10 : Nat) ≠ 43 ∧ (10 : Nat) ≠ 44 by decide), lookM_s, b4, b5, b6]
      constructor
      · rintro ⟨⟨g1, g2⟩, g3, g4, g5⟩
        exact ⟨g3.1, (m2 e g3.1).mpr ((st e g3.1).mpr g3), g4, g5⟩
      · rintro ⟨g1, g2, g3, g4⟩
        have g := (m2 e g1).mp g2
        exact ⟨⟨by omega, g.2.1⟩, (st e g1).mp g, g3, g4⟩
