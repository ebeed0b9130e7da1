/-! the clause that governs: the reference -/
/-- clause e mod 8 of act e div 8 is asked for, in force, and so -/
def QE (σ : MS) (nc : Nat → Nat) (b : Nat → Nat → Int32) (s d : Int32) (e : Nat) : Prop := e % 8 < nc (e / 8) ∧ σ.2.1 20 e = s ∧ σ.2.1 17 (e / 8) ≤ d ∧ d < σ.2.1 21 e ∧ b (e / 8) (e % 8) = 1
theorem LastP.skipN {S : Nat → Prop} {K : Nat} {D : Nat → Int32} {r : Int32} (h : LastP S K D r) : ∀ j, (∀ e, K ≤ e → e < K + j → ¬ S e) → LastP S (K + j) D r := by
  intro j
  induction j with
  | zero => intro _; exact h
  | succ j ih =>
    intro hs
    exact (ih fun e h1 h2 => hs e h1 (by omega)).skip (hs _ (by omega) (by omega))
theorem isForce_eq {σ σ' : MS} (k : Lk σ σ') {a c : Nat} (ha : a < 9) (hc : c < 8) (d : Int32) : M_isForce σ' (nI a) (nI c) d = some (if σ.2.1 17 a ≤ d ∧ d < σ.2.1 21 (8 * a + c) then 1 else 0) := by
  unfold M_isForce
  rw [k.2, rd_nI ha (by decide), nI_mul8, nI_add, rd_nI (by omega) (by decide)]
  by_cases c1 : d < σ.2.1 17 a
  · rw [if_pos c1, if_neg]
    rintro ⟨g, -⟩
    rw [i32_lt] at c1; rw [i32_le] at g; omega
  rw [if_neg c1]
  by_cases c2 : σ.2.1 21 (8 * a + c) ≤ d
  · rw [if_pos c2, if_neg]
    rintro ⟨-, g⟩
    rw [i32_lt] at g; rw [i32_le] at c2; omega
  · rw [if_neg c2, if_pos]
    exact ⟨by rw [i32_le]; rw [i32_lt] at c1; omega, by rw [i32_lt]; rw [i32_le] at c2; omega⟩
theorem M_governs_spec {σ : MS} {na : Nat} (hna : na ≤ 9) (h16 : σ.1 16 + σ.1 50 = nI na) (nc : Nat → Nat) (hnc : ∀ a, a < na → nc a ≤ 8 ∧ σ.2.1 18 a = nI (nc a)) (b : Nat → Nat → Int32) (hb : ∀ a c, a < na → c < nc a → (b a c = 0 ∨ b a c = 1) ∧ ∀ σ', Lk σ σ' → ∃ σ1, M_isSo σ' (nI a) (nI c) = some (b a c, σ1) ∧ Lk σ' σ1) (s d : Int32) : ∃ r σ1, M_governs σ s d = some (r, σ1) ∧ Lk σ σ1 ∧ LastP (QE σ nc b s d) (8 * na) (fun e => σ.2.1 17 (e / 8)) r := by
  have inner : ∀ (k5 : MS → Int32 → Int32 → Int32 → Int32 → Option (Int32 × MS)) (a : Nat), a < na → (∀ σ' r, Lk σ σ' → LastP (QE σ nc b s d) (8 * (a + 1)) (fun e => σ.2.1 17 (e / 8)) r → ∃ r1 σ1, k5 σ' s d r (nI (a + 1)) = some (r1, σ1) ∧ Lk σ σ1 ∧ LastP (QE σ nc b s d) (8 * na) (fun e => σ.2.1 17 (e / 8)) r1) → ∀ (m c fu : Nat) (σ' : MS) (r : Int32), c + m = nc a → m < fu → Lk σ σ' → LastP (QE σ nc b s d) (8 * a + c) (fun e => σ.2.1 17 (e / 8)) r → ∃ r1 σ1, M_governs_L22_r k5 fu σ' s d r (nI a) (nI c) = some (r1, σ1) ∧ Lk σ σ1 ∧ LastP (QE σ nc b s d) (8 * na) (fun e => σ.2.1 17 (e / 8)) r1 := by
    intro k5 a ha hk m
    obtain ⟨n8, n18⟩ := hnc a ha
    induction m with
    | zero =>
      intro c fu σ' r hc hf k hL
      obtain ⟨f, rfl, -⟩ := fuel hf
      have hc : c = nc a := by omega
      subst hc
      rw [M_governs_L22_r, k.2, rd_nI (by omega) (by decide), n18, if_pos (Int32.le_refl _), nI_1]
      refine hk σ' r k ?_
      have := hL.skipN (8 - nc a) fun e h1 h2 g => by
        have := g.1
        have e8 : e / 8 = a := by omega
        rw [e8] at this
        omega
      rw [show 8 * a + nc a + (8 - nc a) = 8 * (a + 1) by omega] at this
      exact this
    | succ m ih =>
      intro c fu σ' r hc hf k hL
      obtain ⟨f, rfl, hf2⟩ := fuel hf
      have d8 : (8 * a + c) / 8 = a := by omega
      have m8 : (8 * a + c) % 8 = c := by omega
      have nx := fun σ' r k h => ih (c + 1) f σ' r (by omega) (by omega) k h
      have skip : ∀ σ', Lk σ σ' → ¬ QE σ nc b s d (8 * a + c) → ∃ r1 σ1, M_governs_L22_r k5 f σ' s d r (nI a) (nI (c + 1)) = some (r1, σ1) ∧ Lk σ σ1 ∧ LastP (QE σ nc b s d) (8 * na) (fun e => σ.2.1 17 (e / 8)) r1 := fun σ' k h => nx σ' r k (hL.skip h)
      rw [M_governs_L22_r]
      unfold M_governs_J91 M_governs_J87 M_governs_J92 M_governs_J119
      rw [if_pos rfl, if_neg (show ¬ (1 : Int32) = 0 by decide), isForce_eq k (by omega) (by omega), bind_so, k.2, rd_nI (by omega) (by decide), n18, if_neg (by rw [nI_leI (by omega) (by omega)]; omega), nI_mul8, nI_add, rd_nI (by omega) (by decide), nI_1]
      by_cases c1 : σ.2.1 20 (8 * a + c) = s
      case neg =>
        rw [if_neg c1]
        exact skip σ' k fun g => c1 g.2.1
      rw [if_pos c1]
      by_cases c2 : σ.2.1 17 a ≤ d ∧ d < σ.2.1 21 (8 * a + c)
      case neg =>
        rw [if_neg c2, if_pos rfl]
        exact skip σ' k fun g => c2 ⟨by have := g.2.2.1; rw [d8] at this; exact this, g.2.2.2.1⟩
      rw [if_pos c2, if_neg (show ¬ (1 : Int32) = 0 by decide)]
      obtain ⟨hb1, hb2⟩ := hb a c ha (by omega)
      have take : (r = -1 ∨ ∃ i, i < 8 * a + c ∧ r = nI i ∧ ¬ σ.2.1 17 a < σ.2.1 17 (i / 8)) → ∃ r1 σ1, ((M_isSo σ' (nI a) (nI c)).bind (pq fun r3 r3s => (if r3 = 0 then M_governs_L22_r k5 f r3s s d r (nI a) (nI (c + 1)) else M_governs_L22_r k5 f r3s s d (nI (8 * a + c)) (nI a) (nI (c + 1))))) = some (r1, σ1) ∧ Lk σ σ1 ∧ LastP (QE σ nc b s d) (8 * na) (fun e => σ.2.1 17 (e / 8)) r1 := by
        intro hr
        obtain ⟨σ1, q1, q2⟩ := hb2 σ' k
        rw [q1, bind_pq]
        rcases hb1 with g | g
        · rw [if_pos g]
          exact skip σ1 (k.trans q2) fun h => by have := h.2.2.2.2; rw [d8, m8, g] at this; exact absurd this (by decide)
        · rw [if_neg (by rw [g]; decide)]
          refine nx σ1 _ (k.trans q2) (hL.take ⟨by rw [d8, m8]; omega, c1, by rw [d8]; exact c2.1, c2.2, by rw [d8, m8]; exact g⟩ (by omega) ?_)
          rcases hr with h | ⟨i, i1, i2, i3⟩
          · exact Or.inl h
          · exact Or.inr ⟨i, i1, i2, by rw [d8]; exact i3⟩
      by_cases c3 : r = -1
      · rw [if_pos c3]
        exact take (Or.inl c3)
      rw [if_neg c3]
      obtain ⟨i, i1, i2⟩ : ∃ i, i < 8 * a + c ∧ r = nI i := by
        rcases hL with g | ⟨i, g1, g2, -⟩
        · exact absurd g.1 c3
        · exact ⟨i, g1, g2⟩
      have r8 : r / 8 = nI (i / 8) := by
        rw [i2, show (8 : Int32) = nI 8 from rfl, pk_div (by omega) (by decide) (by decide)]
      rw [r8, rd_nI (by omega) (by decide), rd_nI (by omega) (by decide)]
      by_cases c4 : σ.2.1 17 a < σ.2.1 17 (i / 8)
      · rw [if_pos c4]
        have hk := hL.keep (i := i) (by omega) ⟨i1, i2⟩ (by show σ.2.1 17 ((8 * a + c) / 8) < _; rw [d8]; exact c4)
        exact nx σ' r k hk
      · rw [if_neg c4]
        exact take (Or.inr ⟨i, i1, i2, c4⟩)
  have outer : ∀ (m a fu : Nat) (σ' : MS) (r : Int32), a + m = na → m < fu → Lk σ σ' → LastP (QE σ nc b s d) (8 * a) (fun e => σ.2.1 17 (e / 8)) r → ∃ r1 σ1, M_governs_L5_r fu σ' s d r (nI a) = some (r1, σ1) ∧ Lk σ σ1 ∧ LastP (QE σ nc b s d) (8 * na) (fun e => σ.2.1 17 (e / 8)) r1 := by
    intro m
    induction m with
    | zero =>
      intro a fu σ' r ha hf k hL
      obtain ⟨f, rfl, -⟩ := fuel hf
      have ha : a = na := by omega
      subst ha
      rw [M_governs_L5_r, k.1 16 (by decide) (by decide) (by decide), k.1 50 (by decide) (by decide) (by decide), h16, if_pos (Int32.le_refl _)]
      exact ⟨_, _, rfl, k, hL⟩
    | succ m ih =>
      intro a fu σ' r ha hf k hL
      obtain ⟨f, rfl, hf2⟩ := fuel hf
      rw [M_governs_L5_r, k.1 16 (by decide) (by decide) (by decide), k.1 50 (by decide) (by decide) (by decide), h16, if_neg (by rw [nI_leI (by omega) (by omega)]; omega)]
      exact inner (M_governs_L5_r f) a (by omega) (fun σ2 r2 k2 h2 => ih (a + 1) f σ2 r2 (by omega) (by omega) k2 h2) (nc a) 0 100000 σ' r (by omega) (by have := (hnc a (by omega)).1; omega) k hL
  exact outer na 0 100000 σ (-1) (by omega) (by omega) Lk.rfl LastP.zero
