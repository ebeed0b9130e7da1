/-! a person is told; laid by 38.py -/
section EASY
variable {A : MS → XS → Prop}
def mP (σ : MS) (np : Nat) (a b c d : Int32) : MS := sI (sA (sA (sA (sA σ 2 (upd (σ.2.1 2) np a)) 3 (upd (σ.2.1 3) np b)) 4 (upd (σ.2.1 4) np c)) 5 (upd (σ.2.1 5) np d)) 1 (nI (np + 1))
def xPp (τ : XS) (np : Nat) (a b c d : Int32) : XS := xI (xA (xA (xA (xA τ 100 (upd (τ.2.1 100) np a)) 101 (upd (τ.2.1 101) np b)) 102 (upd (τ.2.1 102) np c)) 103 (upd (τ.2.1 103) np d)) 104 (nI (np + 1))
theorem Bk_addPerson_eq {τ : XS} {np : Nat} (h : τ.1 104 = nI np) (hn : np < 24) (a b c d : Int32) : Bk_addPerson τ a b c d = some (nI np, xPp τ np a b c d) := by
  unfold Bk_addPerson
  rw [h, if_pos (by rw [show (24 : Int32) = nI 24 from rfl, nI_ltI (by omega) (by omega)]; omega)]
  simp only [xA_1, h, wr_nI hn (show 24 < 2 ^ 31 by decide), cl_nI (show np < 2 ^ 31 by omega), nI_1, xI_get, xA_ne (show (101 : Nat) ≠ 100 by decide), xA_ne (show (102 : Nat) ≠ 100 by decide), xA_ne (show (102 : Nat) ≠ 101 by decide), xA_ne (show (103 : Nat) ≠ 100 by decide), xA_ne (show (103 : Nat) ≠ 101 by decide), xA_ne (show (103 : Nat) ≠ 102 by decide)]
  first
  | rfl
  | (rw [← nI_1, Int32.add_sub_cancel]; rfl)
theorem M_person_J76_eq {σ : MS} {np : Nat} (h : σ.1 1 = nI np) (hn : np ≤ 24) (a b c d s0 : Int32) : M_person_J76 σ a b c d s0 = if 0 ≤ a ∧ a ≤ 1 then (if 0 ≤ b ∧ b ≤ 9999 then (if s0 = 0 then some (-2, σ) else if np = 24 then some (-4, σ) else some (nI np, mP σ np a b c d)) else some (-2, σ)) else some (-2, σ) := by
  unfold M_person_J76
  rw [M_in_eq, M_isDay_eq]
  simp only [bind_so, b01_if]
  by_cases c1 : 0 ≤ a ∧ a ≤ 1
  case neg => rw [if_neg c1, if_neg c1]
  rw [if_pos c1, if_pos c1]
  by_cases c2 : 0 ≤ b ∧ b ≤ 9999
  case neg => rw [if_neg c2, if_neg c2]
  rw [if_pos c2, if_pos c2]
  by_cases c3 : s0 = 0
  · rw [if_pos c3, if_pos c3]
  rw [if_neg c3, if_neg c3, h]
  by_cases c4 : np = 24
  · rw [if_pos c4, if_pos (by rw [c4]; rfl)]
  rw [if_neg c4, if_neg (by rw [show (24 : Int32) = nI 24 from rfl, nI_eq (by omega) (by omega)]; exact c4)]
  simp only [sA_1, h, wr_nI (show np < 24 by omega) (show 24 < 2 ^ 31 by decide), cl_nI (show np < 2 ^ 31 by omega), nI_1, sI_get, sA_ne (show (3 : Nat) ≠ 2 by decide), sA_ne (show (4 : Nat) ≠ 2 by decide), sA_ne (show (4 : Nat) ≠ 3 by decide), sA_ne (show (5 : Nat) ≠ 2 by decide), sA_ne (show (5 : Nat) ≠ 3 by decide), sA_ne (show (5 : Nat) ≠ 4 by decide)]
  have e : nI (np + 1) - 1 = nI np := by rw [← nI_1, Int32.add_sub_cancel]
  rw [e]
  rfl
theorem EntI.more {σ : MS} {np i : Nat} {a b c d : Int32} (h : EntI σ np i) : EntI (mP σ np a b c d) (np + 1) i := by
  rcases h with g | ⟨g1, g2, p, g3, g4, g5, g6, g7, g8⟩
  · exact Or.inl g
  refine Or.inr ⟨g1, g2, p, by omega, g4, ?_, ?_, ?_, g8⟩
  · show (upd (σ.2.1 3) np b p).toInt ≤ _
    rw [pk_un (by omega)]; exact g5
  · show _ → upd (σ.2.1 2) np a p = 0
    rw [pk_un (by omega)]; exact g6
  · intro g
    obtain ⟨w, w1, w2, w3, w4⟩ := g7 g
    refine ⟨w, by omega, w2, ?_, ?_⟩
    · show upd (σ.2.1 2) np a w = 1
      rw [pk_un (by omega)]; exact w3
    · show (upd (σ.2.1 3) np b w).toInt ≤ _
      rw [pk_un (by omega)]; exact w4
theorem st1 (hA : Stb A) : St1 (InvA A) := by
  intro σ τ xs i h
  have same : InvA A σ τ := h
  obtain ⟨np, ne, bl, hP, hB, ⟨m1, m2, m3, m4, m5, m6, m7, m8, m9, m10, m11, m12, m13, m14, m15, m16, m17, m18, m19⟩, ha⟩ := h
  have hP1 := hP.1
  generalize xs (i + 1) = p0
  generalize xs (i + 2) = p1
  generalize xs (i + 3) = p2
  generalize xs (i + 4) = p3
  have inner : ∀ (fo mo : Prop), (p2 = -1 ∨ ∃ q, q < np ∧ p2 = nI q ∧ σ.2.1 2 q = 0 ∧ (fo ↔ σ.2.1 3 q < p1)) → (p2 = -1 → fo) → (p3 = -1 ∨ ∃ q, q < np ∧ p3 = nI q ∧ σ.2.1 2 q = 1 ∧ (mo ↔ σ.2.1 3 q < p1)) → (p3 = -1 → mo) → ∃ r : Int32, ∃ σ1 : MS, ∃ τ1 : XS, W_person_J38 τ p0 p1 p2 p3 = some (r, τ1) ∧ M_person_J39 σ p0 p1 p2 p3 = some (r, σ1) ∧ InvA A σ1 τ1 := by
    intro fo mo hf hf' hm hm'
    have eM : ∃ s0 : Int32, M_person_J39 σ p0 p1 p2 p3 = M_person_J76 σ p0 p1 p2 p3 s0 ∧ ((s0 = 1 ∧ fo ∧ mo) ∨ (s0 = 0 ∧ ¬ (fo ∧ mo))) := by
      have e54 : fo → ∃ s0 : Int32, M_person_J54 σ p0 p1 p2 p3 = M_person_J76 σ p0 p1 p2 p3 s0 ∧ ((s0 = 1 ∧ fo ∧ mo) ∨ (s0 = 0 ∧ ¬ (fo ∧ mo))) := by
        intro hfo
        unfold M_person_J54 M_person_J71 M_person_J75
        rcases hm with g | ⟨q, q1, q2, q3, q4⟩
        · rw [if_pos g]; exact ⟨1, rfl, Or.inl ⟨rfl, hfo, hm' g⟩⟩
        · rw [q2, if_neg (nI_ne_m1 (by omega)), rd_nI (by omega) (by decide)]
          by_cases c : p1 ≤ σ.2.1 3 q
          · rw [if_pos c]; exact ⟨0, rfl, Or.inr ⟨rfl, fun g => by have := q4.mp g.2; rw [i32_lt] at this; rw [i32_le] at c; omega⟩⟩
          · rw [if_neg c]; exact ⟨1, rfl, Or.inl ⟨rfl, hfo, q4.mpr (by rw [i32_lt]; rw [i32_le] at c; omega)⟩⟩
      unfold M_person_J39
      rcases hf with g | ⟨q, q1, q2, q3, q4⟩
      · rw [if_pos g]; exact e54 (hf' g)
      · rw [if_neg (by rw [q2]; exact nI_ne_m1 (by omega)), q2, rd_nI (by omega) (by decide), ← q2]
        by_cases c : p1 ≤ σ.2.1 3 q
        · rw [if_pos c]; exact ⟨0, rfl, Or.inr ⟨rfl, fun g => by have := q4.mp g.1; rw [i32_lt] at this; rw [i32_le] at c; omega⟩⟩
        · rw [if_neg c]; exact e54 (q4.mpr (by rw [i32_lt]; rw [i32_le] at c; omega))
    obtain ⟨s0, eM, hs⟩ := eM
    rw [eM, M_person_J76_eq hP.2.1 hP1]
    unfold W_person_J38
    rw [in_if2, W_isDay_eq, bind_so, b01_if]
    by_cases c1 : 0 ≤ p0 ∧ p0 ≤ 1
    case neg =>
      rw [if_neg c1, if_neg c1]
      exact ⟨_, _, _, rfl, rfl, same⟩
    rw [if_pos c1, if_pos c1]
    by_cases c2 : 0 ≤ p1 ∧ p1 ≤ 9999
    case neg =>
      rw [if_neg c2, if_neg c2]
      exact ⟨_, _, _, rfl, rfl, same⟩
    rw [if_pos c2, if_pos c2]
    have e78 : W_person_J78 τ p0 p1 p2 p3 = @ite _ mo (Classical.propDecidable _) (W_person_J101 τ p0 p1 p2 p3) (some (-2, τ)) := by
      unfold W_person_J78
      rcases hm with g | ⟨q, q1, q2, q3, q4⟩
      · rw [if_pos g, if_pos (hm' g)]
      · rw [if_neg (by rw [q2]; exact nI_ne_m1 (by omega)), q2, rd_nI (by omega) (by decide), hP.2.2.2.2.1, ← q2]
        by_cases c : σ.2.1 3 q < p1
        · rw [if_pos c, if_pos (q4.mpr c)]
        · rw [if_neg c, if_neg fun g => c (q4.mp g)]
    have eX : (if p2 = -1 then W_person_J78 τ p0 p1 p2 p3 else rd (τ.2.1 101) 24 p2 fun v4 => if v4 < p1 then W_person_J78 τ p0 p1 p2 p3 else some (-2, τ)) = @ite _ (fo ∧ mo) (Classical.propDecidable _) (W_person_J101 τ p0 p1 p2 p3) (some (-2, τ)) := by
      rw [e78]
      have fin : fo → @ite _ mo (Classical.propDecidable _) (W_person_J101 τ p0 p1 p2 p3) (some (-2, τ)) = @ite _ (fo ∧ mo) (Classical.propDecidable _) (W_person_J101 τ p0 p1 p2 p3) (some (-2, τ)) := by
        intro hfo
        by_cases c : mo
        · rw [if_pos c, if_pos ⟨hfo, c⟩]
        · rw [if_neg c, if_neg fun g => c g.2]
      rcases hf with g | ⟨q, q1, q2, q3, q4⟩
      · rw [if_pos g]; exact fin (hf' g)
      · rw [if_neg (by rw [q2]; exact nI_ne_m1 (by omega)), q2, rd_nI (by omega) (by decide), hP.2.2.2.2.1, ← q2]
        by_cases c : σ.2.1 3 q < p1
        · rw [if_pos c]; exact fin (q4.mpr c)
        · rw [if_neg c, if_neg fun g => c (q4.mp g.1)]
    rw [eX]
    rcases hs with ⟨hs, hfm⟩ | ⟨hs, hfm⟩
    case inr =>
      rw [if_pos hs, if_neg hfm]
      exact ⟨_, _, _, rfl, rfl, same⟩
    rw [if_pos hfm, if_neg (by rw [hs]; decide)]
    unfold W_person_J101
    by_cases c4 : np = 24
    · rw [if_pos c4, hP.2.2.1, if_neg (by rw [c4]; decide)]
      exact ⟨_, _, _, rfl, rfl, same⟩
    rw [if_neg c4, hP.2.2.1, if_pos (by rw [show (24 : Int32) = nI 24 from rfl, nI_ltI (by omega) (by omega)]; omega), Bk_addPerson_eq hP.2.2.1 (by omega), bind_pq]
    refine ⟨_, _, _, rfl, rfl, ⟨np + 1, ne, bl, ?_, ?_, ⟨m1, m2, m3, m4, m5, m6, m7, m8, m9, m10, m11, (fun r hr => by
      obtain ⟨nd, d1, d2, d3⟩ := m12 r hr
      exact ⟨nd, d1, d2, fun k hk => ⟨by obtain ⟨q, q1, q2⟩ := (d3 k hk).1; exact ⟨q, by omega, q2⟩, (d3 k hk).2⟩⟩), m13, m14, m15, m16, m17, m18, m19⟩, hA σ _ τ _ ha rfl rfl rfl rfl rfl rfl rfl rfl rfl rfl rfl rfl rfl⟩⟩
    · obtain ⟨p1', p2', p3', p4', p5', p6', p7', p8'⟩ := hP
      refine ⟨by omega, rfl, rfl, ?_, ?_, ?_, ?_, fun p hp => ?_⟩
      · show upd (τ.2.1 100) np p0 = upd (σ.2.1 2) np p0; rw [p4']
      · show upd (τ.2.1 101) np p1 = upd (σ.2.1 3) np p1; rw [p5']
      · show upd (τ.2.1 102) np p2 = upd (σ.2.1 4) np p2; rw [p6']
      · show upd (τ.2.1 103) np p3 = upd (σ.2.1 5) np p3; rw [p7']
      · show (upd (σ.2.1 2) np p0 p = 0 ∨ upd (σ.2.1 2) np p0 p = 1) ∧ DayOk (upd (σ.2.1 3) np p1 p) ∧ (upd (σ.2.1 4) np p2 p = -1 ∨ ∃ q, q < np + 1 ∧ upd (σ.2.1 4) np p2 p = nI q ∧ upd (σ.2.1 2) np p0 q = 0 ∧ (upd (σ.2.1 3) np p1 q).toInt < (upd (σ.2.1 3) np p1 p).toInt) ∧ (upd (σ.2.1 5) np p3 p = -1 ∨ ∃ q, q < np + 1 ∧ upd (σ.2.1 5) np p3 p = nI q ∧ upd (σ.2.1 2) np p0 q = 1)
        by_cases e : p = np
        · rw [e, pk_us, pk_us, pk_us, pk_us]
          refine ⟨?_, dayOk_of c2, ?_, ?_⟩
          · have y1 := i32_le.mp c1.1
            have y2 := i32_le.mp c1.2
            rw [show (0 : Int32).toInt = 0 from rfl] at y1
            rw [show (1 : Int32).toInt = 1 from rfl] at y2
            rcases (show p0.toInt = 0 ∨ p0.toInt = 1 by omega) with g | g
            · exact Or.inl (i32_eq.mpr g)
            · exact Or.inr (i32_eq.mpr g)
          · rcases hf with g | ⟨q, q1, q2, q3, q4⟩
            · exact Or.inl g
            · exact Or.inr ⟨q, by omega, q2, by rw [pk_un (by omega)]; exact q3, by rw [pk_un (by omega)]; exact i32_lt.mp (q4.mp hfm.1)⟩
          · rcases hm with g | ⟨q, q1, q2, q3, q4⟩
            · exact Or.inl g
            · exact Or.inr ⟨q, by omega, q2, by rw [pk_un (by omega)]; exact q3⟩
        · rw [pk_un e, pk_un e, pk_un e, pk_un e]
          obtain ⟨o1, o2, o3, o4⟩ := p8' p (by omega)
          refine ⟨o1, o2, ?_, ?_⟩
          · rcases o3 with g | ⟨q, q1, q2, q3, q4⟩
            · exact Or.inl g
            · exact Or.inr ⟨q, by omega, q2, by rw [pk_un (by omega)]; exact q3, by rw [pk_un (by omega)]; exact q4⟩
          · rcases o4 with g | ⟨q, q1, q2, q3⟩
            · exact Or.inl g
            · exact Or.inr ⟨q, by omega, q2, by rw [pk_un (by omega)]; exact q3⟩
    · obtain ⟨b1, b2, b3, b4, b5, b6, b7, b8, b9, b10⟩ := hB
      exact ⟨b1, b2, b3, b4, b5, b6, b7, b8, fun e he => (b9 e he).more, b10⟩
  have man : ∀ p, (∃ q, q < np ∧ p = nI q ∧ σ.2.1 2 q = 0 ∧ M_isMan σ p = some 1 ∧ Bk_isMan τ p = some 1) ∨ (M_isMan σ p = some 0 ∧ Bk_isMan τ p = some 0 ∧ ¬ (0 ≤ p ∧ p < nI np)) ∨ (∃ q, q < np ∧ p = nI q ∧ σ.2.1 2 q = 1 ∧ M_isMan σ p = some 0 ∧ Bk_isMan τ p = some 0) := by
    intro p
    unfold M_isMan
    rw [M_isPerson_eq hP1 hP.2.1, bind_so, b01_if]
    by_cases c : 0 ≤ p ∧ p < nI np
    · obtain ⟨q, hq, rfl⟩ := inN c (by omega)
      rw [if_pos c, rd_nI (by omega) (by decide), Bk_isMan_nI hP hq]
      rcases (hP.2.2.2.2.2.2.2 q hq).1 with g | g
      · exact Or.inl ⟨q, hq, rfl, g, by rw [if_pos g], by unfold b01; rw [if_pos g]⟩
      · have g' : ¬ σ.2.1 2 q = 0 := by rw [g]; decide
        exact Or.inr (Or.inr ⟨q, hq, rfl, g, by rw [if_neg g'], by unfold b01; rw [if_neg g']⟩)
    · refine Or.inr (Or.inl ⟨by rw [if_neg c], ?_, c⟩)
      unfold Bk_isMan
      rw [Bk_isPerson_eq hP.2.2.1, bind_so, b01_if, if_neg c]
  have mid : ∀ (fo : Prop), (p2 = -1 ∨ ∃ q, q < np ∧ p2 = nI q ∧ σ.2.1 2 q = 0 ∧ (fo ↔ σ.2.1 3 q < p1)) → (p2 = -1 → fo) → ∃ r : Int32, ∃ σ1 : MS, ∃ τ1 : XS, W_person_J18 τ p0 p1 p2 p3 = some (r, τ1) ∧ M_person_J13 σ p0 p1 p2 p3 = some (r, σ1) ∧ InvA A σ1 τ1 := by
    intro fo hf hf'
    unfold W_person_J18 M_person_J13
    by_cases c : p3 = -1
    · rw [if_pos c, if_pos c]
      exact inner fo True hf hf' (Or.inl c) (fun _ => trivial)
    rw [if_neg c, if_neg c, M_isPerson_eq hP1 hP.2.1, bind_so, b01_if]
    rcases man p3 with ⟨q, hq, e, hs, g1, g2⟩ | ⟨g1, g2, g3⟩ | ⟨q, hq, e, hs, g1, g2⟩
    · have cq : 0 ≤ p3 ∧ p3 < nI np := by rw [e]; exact ⟨nI_le0 (by omega), by rw [nI_ltI (by omega) (by omega)]; exact hq⟩
      have w : Bk_isWoman τ p3 = some (b01 (σ.2.1 2 q = 1)) := by rw [e]; exact Bk_isWoman_nI hP hq
      rw [if_pos cq, g1, bind_so, if_neg (show ¬ (1 : Int32) = 0 by decide), w, bind_so, b01_if, if_neg (by rw [hs]; decide)]
      exact ⟨_, _, _, rfl, rfl, same⟩
    · rw [if_neg g3]
      refine ⟨-1, σ, τ, ?_, rfl, same⟩
      unfold Bk_isWoman
      rw [Bk_isPerson_eq hP.2.2.1, bind_so, b01_if, if_neg g3]
      rfl
    · have cq : 0 ≤ p3 ∧ p3 < nI np := by rw [e]; exact ⟨nI_le0 (by omega), by rw [nI_ltI (by omega) (by omega)]; exact hq⟩
      rw [if_pos cq, g1, bind_so, if_pos rfl]
      have w : Bk_isWoman τ p3 = some (b01 (σ.2.1 2 q = 1)) := by rw [e]; exact Bk_isWoman_nI hP hq
      rw [w, bind_so, b01_if, if_pos hs]
      exact inner fo (σ.2.1 3 q < p1) hf hf' (Or.inr ⟨q, hq, e, hs, Iff.rfl⟩) (fun g => absurd g c)
  unfold W_person M_person
  by_cases c : p2 = -1
  · rw [if_pos c, if_pos c]
    exact mid True (Or.inl c) (fun _ => trivial)
  rw [if_neg c, if_neg c]
  rcases man p2 with ⟨q, hq, e, hs, g1, g2⟩ | ⟨g1, g2, -⟩ | ⟨-, -, -, -, g1, g2⟩
  · rw [g1, g2, bind_so, bind_so, if_neg (by decide), if_neg (by decide)]
    exact mid (σ.2.1 3 q < p1) (Or.inr ⟨q, hq, e, hs, Iff.rfl⟩) (fun g => absurd g c)
  · rw [g1, g2, bind_so, bind_so, if_pos rfl, if_pos rfl]
    exact ⟨_, _, _, rfl, rfl, same⟩
  · rw [g1, g2, bind_so, bind_so, if_pos rfl, if_pos rfl]
    exact ⟨_, _, _, rfl, rfl, same⟩
end EASY
