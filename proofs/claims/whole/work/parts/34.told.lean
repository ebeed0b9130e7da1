/-! an entry is told: the invariant holds behind it; laid by 34.py -/
/-- only the entries changed -/
def FrE (σ σ' : MS) (τ τ' : XS) : Prop := (∀ j, j ≠ 7 → j ≠ 13 → σ'.1 j = σ.1 j) ∧ (∀ j, j < 8 ∨ 12 < j → σ'.2.1 j = σ.2.1 j) ∧ σ'.2.2 = σ.2.2 ∧ (∀ j, j ≠ 106 → j ≠ 113 → j ≠ 115 → τ'.1 j = τ.1 j) ∧ (∀ j, j < 107 ∨ 114 < j → τ'.2.1 j = τ.2.1 j) ∧ τ'.2.2 = τ.2.2
theorem FrE.ppl {σ σ' : MS} {τ τ' : XS} {np : Nat} (f : FrE σ σ' τ τ') (h : PplI σ τ np) : PplI σ' τ' np := by
  obtain ⟨f1, f2, f3, f4, f5, f6⟩ := f
  unfold PplI at h ⊢
  rw [f1 1 (by decide) (by decide), f4 104 (by decide) (by decide) (by decide), f2 2 (by decide), f2 3 (by decide), f2 4 (by decide), f2 5 (by decide), f5 100 (by decide), f5 101 (by decide), f5 102 (by decide), f5 103 (by decide)]
  exact h
theorem FrE.mis {σ σ' : MS} {τ τ' : XS} {np : Nat} (f : FrE σ σ' τ τ') (h : MisI σ τ np) : MisI σ' τ' np := by
  obtain ⟨f1, f2, f3, f4, f5, f6⟩ := f
  unfold MisI at h ⊢
  simp only [f1 15 (by decide) (by decide), f1 26 (by decide) (by decide), f1 27 (by decide) (by decide), f1 34 (by decide) (by decide), f1 35 (by decide) (by decide), f1 39 (by decide) (by decide), f1 50 (by decide) (by decide), f4 701 (by decide) (by decide) (by decide), f4 205 (by decide) (by decide) (by decide), f4 500 (by decide) (by decide) (by decide), f4 601 (by decide) (by decide) (by decide), f4 901 (by decide) (by decide) (by decide), f4 905 (by decide) (by decide) (by decide), f4 207 (by decide) (by decide) (by decide), f2 14 (by decide), f2 28 (by decide), f2 29 (by decide), f2 30 (by decide), f2 31 (by decide), f2 32 (by decide), f2 33 (by decide), f2 36 (by decide), f2 37 (by decide), f2 38 (by decide), f2 40 (by decide), f2 41 (by decide), f2 51 (by decide), f5 700 (by decide), f5 501 (by decide), f5 502 (by decide), f5 503 (by decide), f5 504 (by decide), f5 505 (by decide), f5 600 (by decide), f5 902 (by decide), f5 903 (by decide), f5 904 (by decide), f5 906 (by decide), f5 907 (by decide), f3, f6]
  exact h
theorem FrE.act {A : MS → XS → Prop} (hA : Stb A) {σ σ' : MS} {τ τ' : XS} (f : FrE σ σ' τ τ') (h : A σ τ) : A σ' τ' := by
  obtain ⟨f1, f2, f3, f4, f5, f6⟩ := f
  exact hA σ σ' τ τ' h (f1 16 (by decide) (by decide)) (f2 17 (by decide)) (f2 18 (by decide)) (f2 19 (by decide)) (f2 20 (by decide)) (f2 21 (by decide)) (f2 22 (by decide)) (f2 23 (by decide)) (f2 24 (by decide)) (f2 25 (by decide)) (f4 302 (by decide) (by decide) (by decide)) (f5 303 (by decide)) (by rw [f6])
/-- what a new entry has to keep -/
def NewE (σ : MS) (np ne : Nat) (p0 p1 p2 p3 p4 : Int32) : Prop :=
  (p0 = 7 ∧ ∃ j, j < ne ∧ p1 = nI j ∧ σ.2.1 8 j ≠ 7 ∧ ∀ i, i < ne → σ.2.1 8 i = 7 → σ.2.1 9 i ≠ nI j) ∨
  ((∃ k, k < 7 ∧ p0 = nI k) ∧ DayOk p3 ∧ ∃ p, p < np ∧ p1 = nI p ∧ (σ.2.1 3 p).toInt ≤ p3.toInt ∧ (p0 ≠ 0 → σ.2.1 2 p = 0) ∧
    (p0 = 1 → ∃ w, w < np ∧ p2 = nI w ∧ σ.2.1 2 w = 1 ∧ (σ.2.1 3 w).toInt ≤ p3.toInt) ∧
    (p0 = 2 → 0 ≤ p2.toInt ∧ p2.toInt < (σ.1 6).toInt ∧ InR p4 0 3) ∧ (p0 = 3 → InR p2 0 3) ∧ (p0 = 6 → InR p2 1 9999))
theorem tell_spec {σ : MS} {τ : XS} {np ne : Nat} {bl : List Nat} (hB : BkI σ τ np ne bl) {p0 p1 p2 p3 p4 : Int32} (hN : NewE σ np ne p0 p1 p2 p3 p4) : ∃ (r : Int32) (σ1 : MS) (τ1 : XS) (ne1 : Nat) (bl1 : List Nat), M_tells σ p0 p1 p2 p3 p4 = some (r, σ1) ∧ Bk_addEntry τ p0 p1 p2 p3 p4 = some (r, τ1) ∧ BkI σ1 τ1 np ne1 bl1 ∧ FrE σ σ1 τ τ1 := by
  have hB0 := hB
  obtain ⟨b1, b2, b3, b4, b5, b6, b7, b8, b9, b10, b11, b12, b13, b14, b15, b16, ⟨cj, cj1, cj2, cj3, cj4⟩, b18, b19⟩ := hB
  by_cases hf : ne = 200
  · subst hf
    exact ⟨-4, σ, τ, 200, bl, M_tells_full b2 _ _ _ _ _, Bk_addEntry_full b3 _ _ _ _ _, hB0, fun _ _ _ => rfl, fun _ _ => rfl, rfl, fun _ _ _ _ => rfl, fun _ _ => rfl, rfl⟩
  have hlt : ne < 200 := by omega
  have hbl : bl.length ≤ ne := by
    have p : bl.Perm (flL (fun e => σ.2.1 8 e ≠ 7) (List.range ne)) := perm_of b14 (flL_nodup List.nodup_range) fun e => by rw [b16, flL_mem, List.mem_range]
    have q := p.length_eq
    have q2 := flL_len (M := fun e => σ.2.1 8 e ≠ 7) (l := List.range ne)
    rw [List.length_range] at q2
    omega
  have oldE : ∀ i, i < ne → EntI (sI (sI (mE σ ne p0 p1 p2 p3 p4) 13 (σ.1 13 + (if p0 = 2 then 1 else 0))) 7 (nI (ne + 1))) np i := by
    intro i hi
    have r8 : ∀ j, j < ne → upd (σ.2.1 8) ne p0 j = σ.2.1 8 j := fun j hj => pk_un (by omega)
    show (upd (σ.2.1 8) ne p0 i = 7 ∧ (∃ j, j < i ∧ upd (σ.2.1 9) ne p1 i = nI j ∧ upd (σ.2.1 8) ne p0 j ≠ 7)) ∨ ((∃ k, k < 7 ∧ upd (σ.2.1 8) ne p0 i = nI k) ∧ DayOk (upd (σ.2.1 11) ne p3 i) ∧ ∃ p, p < np ∧ upd (σ.2.1 9) ne p1 i = nI p ∧ (σ.2.1 3 p).toInt ≤ (upd (σ.2.1 11) ne p3 i).toInt ∧ (upd (σ.2.1 8) ne p0 i ≠ 0 → σ.2.1 2 p = 0) ∧ (upd (σ.2.1 8) ne p0 i = 1 → ∃ w, w < np ∧ upd (σ.2.1 10) ne p2 i = nI w ∧ σ.2.1 2 w = 1 ∧ (σ.2.1 3 w).toInt ≤ (upd (σ.2.1 11) ne p3 i).toInt) ∧ (upd (σ.2.1 8) ne p0 i = 2 → 0 ≤ (upd (σ.2.1 10) ne p2 i).toInt ∧ (upd (σ.2.1 10) ne p2 i).toInt < (σ.1 6).toInt ∧ InR (upd (σ.2.1 12) ne p4 i) 0 3) ∧ (upd (σ.2.1 8) ne p0 i = 3 → InR (upd (σ.2.1 10) ne p2 i) 0 3) ∧ (upd (σ.2.1 8) ne p0 i = 6 → InR (upd (σ.2.1 10) ne p2 i) 1 9999))
    rw [r8 i hi, pk_un (show i ≠ ne by omega), pk_un (show i ≠ ne by omega), pk_un (show i ≠ ne by omega), pk_un (show i ≠ ne by omega)]
    rcases b9 i hi with ⟨g1, j, g2, g3, g4⟩ | g
    · exact Or.inl ⟨g1, j, g2, g3, by rw [r8 j (by omega)]; exact g4⟩
    · exact Or.inr g
  have newE : EntI (sI (sI (mE σ ne p0 p1 p2 p3 p4) 13 (σ.1 13 + (if p0 = 2 then 1 else 0))) 7 (nI (ne + 1))) np ne := by
    show (upd (σ.2.1 8) ne p0 ne = 7 ∧ (∃ j, j < ne ∧ upd (σ.2.1 9) ne p1 ne = nI j ∧ upd (σ.2.1 8) ne p0 j ≠ 7)) ∨ ((∃ k, k < 7 ∧ upd (σ.2.1 8) ne p0 ne = nI k) ∧ DayOk (upd (σ.2.1 11) ne p3 ne) ∧ ∃ p, p < np ∧ upd (σ.2.1 9) ne p1 ne = nI p ∧ (σ.2.1 3 p).toInt ≤ (upd (σ.2.1 11) ne p3 ne).toInt ∧ (upd (σ.2.1 8) ne p0 ne ≠ 0 → σ.2.1 2 p = 0) ∧ (upd (σ.2.1 8) ne p0 ne = 1 → ∃ w, w < np ∧ upd (σ.2.1 10) ne p2 ne = nI w ∧ σ.2.1 2 w = 1 ∧ (σ.2.1 3 w).toInt ≤ (upd (σ.2.1 11) ne p3 ne).toInt) ∧ (upd (σ.2.1 8) ne p0 ne = 2 → 0 ≤ (upd (σ.2.1 10) ne p2 ne).toInt ∧ (upd (σ.2.1 10) ne p2 ne).toInt < (σ.1 6).toInt ∧ InR (upd (σ.2.1 12) ne p4 ne) 0 3) ∧ (upd (σ.2.1 8) ne p0 ne = 3 → InR (upd (σ.2.1 10) ne p2 ne) 0 3) ∧ (upd (σ.2.1 8) ne p0 ne = 6 → InR (upd (σ.2.1 10) ne p2 ne) 1 9999))
    rw [pk_us, pk_us, pk_us, pk_us, pk_us]
    rcases hN with ⟨g1, j, g2, g3, g4, g5⟩ | g
    · exact Or.inl ⟨g1, j, g2, g3, by rw [pk_un (by omega)]; exact g4⟩
    · exact Or.inr g
  have allE : ∀ i, i < ne + 1 → EntI (sI (sI (mE σ ne p0 p1 p2 p3 p4) 13 (σ.1 13 + (if p0 = 2 then 1 else 0))) 7 (nI (ne + 1))) np i := by
    intro i hi
    rcases Nat.lt_or_eq_of_le (Nat.le_of_lt_succ hi) with g | g
    · exact oldE i g
    · rw [g]; exact newE
  have joined : ∃ c : Nat, c ≤ ne + 1 ∧ σ.1 13 + (if p0 = 2 then 1 else 0) = nI c ∧ (if p0 = 2 then 1 else τ.1 106) = (if c = 0 then 0 else 1) ∧ (c = 0 → ∀ i, i < ne + 1 → upd (σ.2.1 8) ne p0 i ≠ 2) := by
    by_cases c2 : p0 = 2
    · refine ⟨cj + 1, by omega, by rw [if_pos c2, cj2, nI_1], by rw [if_pos c2, if_neg (by omega)], fun g => absurd g (by omega)⟩
    · refine ⟨cj, by omega, by rw [if_neg c2, cj2]; exact Int32.add_zero _, by rw [if_neg c2]; exact cj3, fun g i hi => ?_⟩
      by_cases e : i = ne
      · rw [e, pk_us]; exact c2
      · rw [pk_un e]; exact cj4 g i (by omega)
  rw [M_tells_eq b2 hlt, Bk_addEntry_eq b3 hlt]
  unfold Bk_addEntry_J87
  by_cases c7 : p0 = 7
  · rcases hN with ⟨-, j, hj, ej, hj7, hnew⟩ | ⟨⟨k, hk, ek⟩, -⟩
    case inr => exfalso; rw [c7, show (7 : Int32) = nI 7 from rfl, nI_eq (by omega) (by omega)] at ek; omega
    have n2 : ¬ p0 = 2 := by rw [c7]; decide
    have e113 : (xE τ ne p0 p1 p2 p3 p4).1 113 = nI ne := b3
    rw [if_neg n2] at joined allE
    rw [if_neg n2] at joined
    rw [if_neg n2, if_neg n2, if_pos c7, Bk_isEntry_eq e113, bind_so, b01_if, if_pos (by rw [ej]; exact ⟨nI_le0 (by omega), by rw [nI_ltI (by omega) (by omega)]; exact hj⟩), ej, wr_nI (by omega) (by decide), cl_nI (by omega), show (xE τ ne p0 (nI j) p2 p3 p4).1 113 = nI ne from b3]
    unfold Bk_addEntry_J122
    rw [show (xA (xE τ ne p0 (nI j) p2 p3 p4) 112 (upd ((xE τ ne p0 (nI j) p2 p3 p4).2.1 112) j (nI ne))).1 113 = nI ne from b3, nI_1]
    rw [ej] at allE
    refine ⟨_, _, _, ne + 1, bl, rfl, rfl, ⟨by omega, rfl, rfl, ?_, ?_, ?_, ?_, ?_, allE, ?_, b11, b12, b13, b14, ?_, ?_, ?_, b18, b19⟩, ?_⟩
    · show upd (τ.2.1 107) ne p0 = upd (σ.2.1 8) ne p0; rw [b4]
    · show upd (τ.2.1 108) ne (nI j) = upd (σ.2.1 9) ne (nI j); rw [b5]
    · show upd (τ.2.1 109) ne p2 = upd (σ.2.1 10) ne p2; rw [b6]
    · show upd (τ.2.1 110) ne p3 = upd (σ.2.1 11) ne p3; rw [b7]
    · show upd (τ.2.1 111) ne p4 = upd (σ.2.1 12) ne p4; rw [b8]
    · intro i hi
      show (upd (upd (τ.2.1 112) ne 200) j (nI ne) i = 200 ∧ ∀ e, e < ne + 1 → upd (σ.2.1 8) ne p0 e = 7 → upd (σ.2.1 9) ne (nI j) e ≠ nI i) ∨ ∃ e, e < ne + 1 ∧ i < e ∧ upd (upd (τ.2.1 112) ne 200) j (nI ne) i = nI e ∧ upd (σ.2.1 8) ne p0 e = 7 ∧ upd (σ.2.1 9) ne (nI j) e = nI i ∧ ∀ e', e' < ne + 1 → upd (σ.2.1 8) ne p0 e' = 7 → upd (σ.2.1 9) ne (nI j) e' = nI i → e' = e
      by_cases ei : i = j
      · subst ei
        refine Or.inr ⟨ne, by omega, hj, pk_us, by rw [pk_us]; exact c7, pk_us, fun e' h1 h2 h3 => ?_⟩
        by_cases g : e' = ne
        · exact g
        · rw [pk_un g] at h2 h3
          exact absurd h3 (hnew e' (by omega) h2)
      · rw [pk_un ei]
        by_cases en : i = ne
        · subst en
          refine Or.inl ⟨pk_us, fun e h1 h2 h3 => ?_⟩
          by_cases g : e = i
          · rw [g, pk_us, nI_eq (by omega) (by omega)] at h3; omega
          · rw [pk_un g] at h2 h3
            rcases b9 e (by omega) with ⟨-, j', hj', ej', -⟩ | ⟨⟨k, hk, ek⟩, -⟩
            · rw [ej', nI_eq (by omega) (by omega)] at h3; omega
            · rw [ek, show (7 : Int32) = nI 7 from rfl, nI_eq (by omega) (by omega)] at h2; omega
        · rw [pk_un en]
          rcases b10 i (by omega) with ⟨g1, g2⟩ | ⟨e0, g1, g2, g3, g4, g5, g6⟩
          · refine Or.inl ⟨g1, fun e h1 h2 h3 => ?_⟩
            by_cases g : e = ne
            · rw [g, pk_us, nI_eq (by omega) (by omega)] at h3; exact ei h3.symm
            · rw [pk_un g] at h2 h3; exact g2 e (by omega) h2 h3
          · refine Or.inr ⟨e0, by omega, g2, g3, by rw [pk_un (by omega)]; exact g4, by rw [pk_un (by omega)]; exact g5, fun e h1 h2 h3 => ?_⟩
            by_cases g : e = ne
            · rw [g, pk_us, nI_eq (by omega) (by omega)] at h3; exact absurd h3.symm ei
            · rw [pk_un g] at h2 h3; exact g6 e (by omega) h2 h3
    · show bl.Pairwise (ltD (upd (σ.2.1 11) ne p3))
      refine b15.imp_of_mem fun {a b} ha hb h => ?_
      have ha' := (b16 a).mp ha
      have hb' := (b16 b).mp hb
      unfold ltD at h ⊢
      rw [pk_un (show a ≠ ne by omega), pk_un (show b ≠ ne by omega)]
      exact h
    · intro e
      show e ∈ bl ↔ e < ne + 1 ∧ upd (σ.2.1 8) ne p0 e ≠ 7
      rw [b16]
      by_cases g : e = ne
      · subst g; rw [pk_us, c7]; exact ⟨fun h => absurd h.1 (Nat.lt_irrefl _), fun h => absurd rfl h.2⟩
      · rw [pk_un g]; exact and_congr_left fun _ => by omega
    · exact joined
    · exact ⟨fun k h1 h2 => by rw [sI_ne h1, sI_ne h2]; rfl, fun k hk => by
        show (mE σ ne p0 (nI j) p2 p3 p4).2.1 k = _
        unfold mE
        rw [sA_ne (by omega), sA_ne (by omega), sA_ne (by omega), sA_ne (by omega), sA_ne (by omega)], rfl, fun k h0 h1 h2 => by rw [xI_ne h1]; rfl, fun k hk => by
        show (xA (xE τ ne p0 (nI j) p2 p3 p4) 112 _).2.1 k = _
        unfold xE
        rw [xA_ne (by omega), xA_ne (by omega), xA_ne (by omega), xA_ne (by omega), xA_ne (by omega), xA_ne (by omega), xA_ne (by omega)], rfl⟩
  · rw [if_neg c7]
    have old7 : ∀ i, i < ne → ∀ e, e < ne + 1 → upd (σ.2.1 8) ne p0 e = 7 → e < ne ∧ σ.2.1 8 e = 7 := by
      intro i _ e he h
      by_cases g : e = ne
      · rw [g, pk_us] at h; exact absurd h c7
      · rw [pk_un g] at h; exact ⟨by omega, h⟩
    have key : ∀ (t : XS), t.1 113 = nI ne → t.1 115 = nI bl.length → t.2.1 114 = τ.2.1 114 → t.2.1 110 = upd (τ.2.1 110) ne p3 → ∃ (f : Nat → Int32) (bl' : List Nat), Bk_putByDay t (nI ne) = some ((), xI (xA t 114 f) 115 (nI bl'.length)) ∧ bl'.length = bl.length + 1 ∧ (∀ (k : Nat) (h : k < bl'.length), f k = nI bl'[k]) ∧ bl'.Nodup ∧ bl'.Pairwise (ltD (upd (σ.2.1 11) ne p3)) ∧ (∀ x, x ∈ bl' ↔ x = ne ∨ x ∈ bl) := by
      intro t h1 h2 h3 h4
      have := Bk_putByDay_spec (τ := t) (ne := ne) (bl := bl) hlt (by omega) h2 (fun x hx => ((b16 x).mp hx).1) (fun k hk => by rw [h3]; exact b13 k hk) (by
        rw [h4, b7]
        refine b15.imp_of_mem fun {a b} ha hb h => ?_
        have ha' := (b16 a).mp ha
        have hb' := (b16 b).mp hb
        unfold ltD at h ⊢
        rw [pk_un (show a ≠ ne by omega), pk_un (show b ≠ ne by omega)]
        exact h) b14
      rw [h4, b7] at this
      exact this
    have fin : ∀ (t : XS), (t.1 113 = nI ne) → t.1 115 = nI bl.length → t.2 = (xE τ ne p0 p1 p2 p3 p4).2 → (∀ k, k ≠ 106 → t.1 k = τ.1 k) → t.1 106 = (if p0 = 2 then 1 else τ.1 106) → ∃ (r : Int32) (σ1 : MS) (τ1 : XS) (ne1 : Nat) (bl1 : List Nat), some (nI ne, sI (sI (mE σ ne p0 p1 p2 p3 p4) 13 (σ.1 13 + (if p0 = 2 then 1 else 0))) 7 (nI (ne + 1))) = some (r, σ1) ∧ ((Bk_putByDay t (t.1 113)).bind (pq fun r1 r1s => (Bk_addEntry_J122 r1s))) = some (r, τ1) ∧ BkI σ1 τ1 np ne1 bl1 ∧ FrE σ σ1 τ τ1 := by
      intro t h1 h2 h3 h4 h6
      have e2 : t.2.1 = (xE τ ne p0 p1 p2 p3 p4).2.1 := by rw [h3]
      obtain ⟨f, bl', g1, g2, g3, g4, g5, g6⟩ := key t h1 h2 (by rw [e2]; rfl) (by rw [e2]; rfl)
      rw [h1, g1, bind_pq]
      unfold Bk_addEntry_J122
      have e113 : (xI (xA t 114 f) 115 (nI bl'.length)).1 113 = nI ne := (xI_ne (by decide)).trans h1
      rw [e113, nI_1]
      have rx : ∀ k, k ≠ 114 → (xI (xI (xA t 114 f) 115 (nI bl'.length)) 113 (nI (ne + 1))).2.1 k = (xE τ ne p0 p1 p2 p3 p4).2.1 k := fun k hk => by
        show (xA t 114 f).2.1 k = _
        rw [xA_ne hk, e2]
      refine ⟨_, _, _, ne + 1, bl', rfl, rfl, ⟨by omega, rfl, rfl, ?_, ?_, ?_, ?_, ?_, allE, ?_, by omega, rfl, g3, g4, g5, ?_, ?_, b18, ?_⟩, ?_⟩
      · rw [rx 107 (by decide)]; show upd (τ.2.1 107) ne p0 = upd (σ.2.1 8) ne p0; rw [b4]
      · rw [rx 108 (by decide)]; show upd (τ.2.1 108) ne p1 = upd (σ.2.1 9) ne p1; rw [b5]
      · rw [rx 109 (by decide)]; show upd (τ.2.1 109) ne p2 = upd (σ.2.1 10) ne p2; rw [b6]
      · rw [rx 110 (by decide)]; show upd (τ.2.1 110) ne p3 = upd (σ.2.1 11) ne p3; rw [b7]
      · rw [rx 111 (by decide)]; show upd (τ.2.1 111) ne p4 = upd (σ.2.1 12) ne p4; rw [b8]
      · intro i hi
        rw [rx 112 (by decide)]
        show (upd (τ.2.1 112) ne 200 i = 200 ∧ ∀ e, e < ne + 1 → upd (σ.2.1 8) ne p0 e = 7 → upd (σ.2.1 9) ne p1 e ≠ nI i) ∨ ∃ e, e < ne + 1 ∧ i < e ∧ upd (τ.2.1 112) ne 200 i = nI e ∧ upd (σ.2.1 8) ne p0 e = 7 ∧ upd (σ.2.1 9) ne p1 e = nI i ∧ ∀ e', e' < ne + 1 → upd (σ.2.1 8) ne p0 e' = 7 → upd (σ.2.1 9) ne p1 e' = nI i → e' = e
        by_cases en : i = ne
        · subst en
          refine Or.inl ⟨pk_us, fun e h1 h2 h3 => ?_⟩
          by_cases g : e = i
          · rw [g, pk_us] at h2; exact c7 h2
          · rw [pk_un g] at h2 h3
            rcases b9 e (by omega) with ⟨-, j', hj', ej', -⟩ | ⟨⟨k, hk, ek⟩, -⟩
            · rw [ej', nI_eq (by omega) (by omega)] at h3; omega
            · rw [ek, show (7 : Int32) = nI 7 from rfl, nI_eq (by omega) (by omega)] at h2; omega
        · rw [pk_un en]
          rcases b10 i (by omega) with ⟨q1, q2⟩ | ⟨e0, q1, q2, q3, q4, q5, q6⟩
          · refine Or.inl ⟨q1, fun e h1 h2 h3 => ?_⟩
            obtain ⟨z1, z2⟩ := old7 i (by omega) e h1 h2
            rw [pk_un (by omega)] at h3
            exact q2 e z1 z2 h3
          · refine Or.inr ⟨e0, by omega, q2, q3, by rw [pk_un (by omega)]; exact q4, by rw [pk_un (by omega)]; exact q5, fun e h1 h2 h3 => ?_⟩
            obtain ⟨z1, z2⟩ := old7 i (by omega) e h1 h2
            rw [pk_un (by omega)] at h3
            exact q6 e z1 z2 h3
      · intro e
        show e ∈ bl' ↔ e < ne + 1 ∧ upd (σ.2.1 8) ne p0 e ≠ 7
        rw [g6, b16]
        by_cases g : e = ne
        · subst g; rw [pk_us]; exact ⟨fun _ => ⟨Nat.lt_succ_self _, c7⟩, fun _ => Or.inl rfl⟩
        · rw [pk_un g]
          constructor
          · rintro (q | ⟨q1, q2⟩)
            · exact absurd q g
            · exact ⟨by omega, q2⟩
          · rintro ⟨q1, q2⟩; exact Or.inr ⟨by omega, q2⟩
      · obtain ⟨c, k1, k2, k3, k4⟩ := joined
        refine ⟨c, k1, k2, ?_, k4⟩
        rw [xI_ne (by decide), xI_ne (by decide)]
        show t.1 106 = _
        rw [h6]; exact k3
      · rw [xI_ne (by decide), xI_ne (by decide)]
        exact (h4 105 (by decide)).trans b19
      · exact ⟨fun k h1 h2 => by rw [sI_ne h1, sI_ne h2]; rfl, fun k hk => by
          show (mE σ ne p0 p1 p2 p3 p4).2.1 k = _
          unfold mE
          rw [sA_ne (by omega), sA_ne (by omega), sA_ne (by omega), sA_ne (by omega), sA_ne (by omega)], rfl, fun k h0 h1 h2 => by rw [xI_ne h1, xI_ne h2]; exact h4 k h0, fun k hk => by
          rw [rx k (by omega)]
          unfold xE
          rw [xA_ne (by omega), xA_ne (by omega), xA_ne (by omega), xA_ne (by omega), xA_ne (by omega), xA_ne (by omega)], by
          show t.2.2 = τ.2.2
          rw [h3]; rfl⟩
    by_cases c2 : p0 = 2
    · rw [if_pos c2, if_pos c2]
      have := fin (xI (xE τ ne p0 p1 p2 p3 p4) 106 1) ((xI_ne (by decide)).trans b3) ((xI_ne (by decide)).trans b12) rfl (fun k hk => by rw [xI_ne hk]; rfl) (by rw [xI_get, if_pos c2])
      rw [if_pos c2] at this
      exact this
    · rw [if_neg c2, if_neg c2]
      have := fin (xE τ ne p0 p1 p2 p3 p4) b3 b12 rfl (fun k hk => rfl) (by rw [if_neg c2]; rfl)
      rw [if_neg c2] at this
      exact this
