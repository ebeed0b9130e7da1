/-! the clause that governs: the class -/
def Lr (τ τ1 : XS) : Prop := (∀ j, j ≠ 307 → j ≠ 308 → j ≠ 309 → τ1.1 j = τ.1 j) ∧ (∀ j, j ≠ 306 → τ1.2.1 j = τ.2.1 j) ∧ τ1.2.2 = τ.2.2
def dflt (s : Int32) : Int32 := if s = 7 then 18 else if s = 8 then 40 else 0
theorem oN_some {α β : Type} (a : α) (k0 k1 : Option β) : oN (some a) k0 k1 = k1 := rfl
theorem Lx.lr {a b : XS} (h : Lx a b) : Lr a b := ⟨fun j _ _ _ => by rw [h.1], h.2.1, h.2.2⟩
theorem Lw_ruling_spec {σ : MS} {τ : XS} {na : Nat} {h : Nat → Nat} {od : List Nat} (g : ActsR σ τ na h od) (nc : Nat → Nat) (hnc : ∀ a, a < na → nc a ≤ 8 ∧ tF τ (h a) 2 = nI (nc a)) (hcl : ∀ a c, a < na → c < nc a → tA τ (h a) 3 c = σ.2.1 20 (8 * a + c) ∧ tA τ (h a) 7 c = σ.2.1 21 (8 * a + c)) (b v : Nat → Nat → Int32)
    (hb : ∀ a c, a < na → c < nc a → (b a c = 0 ∨ b a c = 1) ∧ (∀ τ', Lx τ τ' → ∃ r τ1, Lw_reckon τ' (h a) (tA τ (h a) 5 c) (tA τ (h a) 6 c) = some (r, τ1) ∧ Lx τ' τ1 ∧ (r = 0 ↔ b a c = 0)))
    (hv : ∀ a c, a < na → c < nc a → ∀ τ', Lr τ τ' → ∃ r τ1, Lw_reckon τ' (h a) (tA τ (h a) 4 c) (tA τ (h a) 5 c) = some (r, τ1) ∧ Lx τ' τ1 ∧ Lw_bounded τ1 r = some (v a c)) (s d : Int32) :
    ∃ r w τ1, Lw_ruling τ s d = some (w, τ1) ∧ Lr τ τ1 ∧ LastP (QE σ nc b s d) (8 * na) (fun e => σ.2.1 17 (e / 8)) r ∧ ((r = -1 ∧ w = dflt s ∧ τ1.1 307 = -5) ∨ ∃ a c, r = nI (8 * a + c) ∧ a < na ∧ c < nc a ∧ w = v a c ∧ τ1.1 307 = nI (100 * a + c) ∧ τ1.1 309 = σ.2.1 17 a ∧ τ1.1 308 = v a c) := by
  obtain ⟨g1, g2, g3, g4, g5, g6, g7, g8, g9⟩ := g
  have oAe : ∀ {β : Type} {t : XS} {a : Nat} {k : Nat → Option β}, a < na → t.2.2 = τ.2.2 → oA (nA t) (some (h a)) k = k (h a) := fun {β t a k} ha e => oA_some (by unfold nA; rw [e]; exact (g3 a ha).2)
  have tAe : ∀ (t : XS) (a j : Nat), t.2.2 = τ.2.2 → tA t a j = tA τ a j := fun t a j e => by unfold tA; rw [e]
  have tFe : ∀ (t : XS) (a j : Nat), t.2.2 = τ.2.2 → tF t a j = tF τ a j := fun t a j e => by unfold tF; rw [e]
  -- what is found is the last
  have found : ∀ (pre suf : List Nat) (a c : Nat), od = pre ++ a :: suf → (∀ a', a' ∈ suf → ∀ c', c' < 8 → ¬ QE σ nc b s d (8 * a' + c')) → (∀ c', c < c' → c' < 8 → ¬ QE σ nc b s d (8 * a + c')) → c < 8 → QE σ nc b s d (8 * a + c) → LastP (QE σ nc b s d) (8 * na) (fun e => σ.2.1 17 (e / 8)) (nI (8 * a + c)) := by
    intro pre suf a c ho h1 h2 hc hq
    have ha : a < na := (g8 a).mp (by rw [ho]; simp)
    refine Or.inr ⟨8 * a + c, by omega, rfl, hq, fun j hj hqj => ?_⟩
    show σ.2.1 17 (j / 8) < σ.2.1 17 ((8 * a + c) / 8) ∨ (σ.2.1 17 (j / 8) = σ.2.1 17 ((8 * a + c) / 8) ∧ j ≤ 8 * a + c)
    rw [show (8 * a + c) / 8 = a by omega]
    have hj8 : j = 8 * (j / 8) + j % 8 := by omega
    have hm : j / 8 ∈ od := (g8 _).mpr (by omega)
    rw [ho] at hm
    rcases List.mem_append.mp hm with q | q
    · have : ltD (σ.2.1 17) (j / 8) a := by
        rw [ho, List.pairwise_append] at g7
        exact g7.2.2 _ q a (by simp)
      rcases this with q | ⟨q1, q2⟩
      · exact Or.inl q
      · exact Or.inr ⟨q1, by omega⟩
    · rcases List.mem_cons.mp q with q | q
      · rw [q]
        refine Or.inr ⟨rfl, ?_⟩
        apply Classical.byContradiction
        intro q3
        exact h2 (j % 8) (by omega) (by omega) (by rw [q] at hj8; rw [← hj8]; exact hqj)
      · exact absurd hqj (by rw [hj8]; exact h1 _ q _ (by omega))
  have inner : ∀ (k7 : XS → Int32 → Int32 → Int32 → Option (Int32 × XS)) (pre suf : List Nat) (a : Nat), od = pre ++ a :: suf → (∀ a', a' ∈ suf → ∀ c', c' < 8 → ¬ QE σ nc b s d (8 * a' + c')) → σ.2.1 17 a ≤ d → ((∀ c', c' < 8 → ¬ QE σ nc b s d (8 * a + c')) → ∀ τ', Lx τ τ' → ∃ r w τ1, k7 τ' s d (nI pre.length - 1) = some (w, τ1) ∧ Lr τ τ1 ∧ LastP (QE σ nc b s d) (8 * na) (fun e => σ.2.1 17 (e / 8)) r ∧ ((r = -1 ∧ w = dflt s ∧ τ1.1 307 = -5) ∨ ∃ a c, r = nI (8 * a + c) ∧ a < na ∧ c < nc a ∧ w = v a c ∧ τ1.1 307 = nI (100 * a + c) ∧ τ1.1 309 = σ.2.1 17 a ∧ τ1.1 308 = v a c)) → ∀ (n fu : Nat) (τ' : XS), n ≤ nc a → n < fu → Lx τ τ' → (∀ c', n ≤ c' → c' < 8 → ¬ QE σ nc b s d (8 * a + c')) → ∃ r w τ1, Lw_ruling_L50_r k7 fu τ' s d (nI pre.length) (some (h a)) (nI n - 1) = some (w, τ1) ∧ Lr τ τ1 ∧ LastP (QE σ nc b s d) (8 * na) (fun e => σ.2.1 17 (e / 8)) r ∧ ((r = -1 ∧ w = dflt s ∧ τ1.1 307 = -5) ∨ ∃ a c, r = nI (8 * a + c) ∧ a < na ∧ c < nc a ∧ w = v a c ∧ τ1.1 307 = nI (100 * a + c) ∧ τ1.1 309 = σ.2.1 17 a ∧ τ1.1 308 = v a c) := by
    intro k7 pre suf a ho h1 hday hk n
    have ha : a < na := (g8 a).mp (by rw [ho]; simp)
    have hl : pre.length < od.length := by rw [ho, List.length_append, List.length_cons]; omega
    obtain ⟨n8, -⟩ := hnc a ha
    induction n with
    | zero =>
      intro fu τ' hn hf x hq
      obtain ⟨f, rfl, -⟩ := fuel hf
      rw [Lw_ruling_L50_r, if_pos (by decide)]
      unfold Lw_ruling_J181
      rw [← Int32.sub_eq_add_neg]
      exact hk (fun c' hc' => hq c' (Nat.zero_le _) hc') τ' x
    | succ c ih =>
      intro fu τ' hn hf x hq
      obtain ⟨f, rfl, hf2⟩ := fuel hf
      have e1 : nI (c + 1) - 1 = nI c := by rw [← nI_1, Int32.add_sub_cancel]
      obtain ⟨t3, t7⟩ := hcl a c ha (by omega)
      obtain ⟨hb1, hb2⟩ := hb a c ha (by omega)
      have d8 : (8 * a + c) / 8 = a := by omega
      have m8 : (8 * a + c) % 8 = c := by omega
      have nx : ∀ τ', Lx τ τ' → ¬ QE σ nc b s d (8 * a + c) → _ := fun τ' x hn' => ih f τ' (by omega) (by omega) x fun c' h1' h2' => by
        rcases Nat.eq_or_lt_of_le h1' with q | q
        · rw [← q]; exact hn'
        · exact hq c' q h2'
      rw [Lw_ruling_L50_r, e1, if_neg (nI_not_lt0 (by omega))]
      unfold Lw_ruling_J175
      simp only [oAe ha x.2.2, tAe τ' _ _ x.2.2, rd_nI (show c < 8 by omega) (show 8 < 2 ^ 31 by decide), t3, t7, ← Int32.sub_eq_add_neg]
      by_cases c1 : σ.2.1 20 (8 * a + c) = s
      case neg =>
        rw [if_neg c1]
        exact nx τ' x fun q => c1 q.2.1
      rw [if_pos c1]
      by_cases c2 : d < σ.2.1 21 (8 * a + c)
      case neg =>
        rw [if_neg c2]
        exact nx τ' x fun q => c2 q.2.2.2.1
      rw [if_pos c2]
      obtain ⟨r7, τ2, q1, q2, q3⟩ := hb2 τ' x
      rw [q1, bind_pq]
      by_cases c3 : r7 = 0
      · rw [if_pos c3]
        exact nx τ2 (x.trans q2) fun q => by have := q.2.2.2.2; rw [d8, m8, q3.mp c3] at this; exact absurd this (by decide)
      rw [if_neg c3]
      have hb' : b a c = 1 := hb1.resolve_left fun q => c3 (q3.mpr q)
      have x2 : Lx τ τ2 := x.trans q2
      have od1 : τ.2.1 303 pre.length = nI a := by
        rw [g5 _ hl]
        congr 1
        simp [ho]
      have hi : (100 : Int32) * nI a + nI c = nI (100 * a + c) := by rw [show (100 : Int32) = nI 100 from rfl, nI_mul, nI_add]
      rw [x2.2.1 303 (by decide), rd_nI (by omega) (by decide), od1, hi]
      simp only [oAe (t := xI τ2 307 (nI (100 * a + c))) ha x2.2.2, tFe (xI τ2 307 (nI (100 * a + c))) _ _ x2.2.2, (g9 a ha).1]
      simp only [oAe (t := xI (xI τ2 307 (nI (100 * a + c))) 309 (σ.2.1 17 a)) ha x2.2.2, tAe (xI (xI τ2 307 (nI (100 * a + c))) 309 (σ.2.1 17 a)) _ _ x2.2.2, rd_nI (show c < 8 by omega) (show 8 < 2 ^ 31 by decide)]
      have xr : Lr τ (xI (xI τ2 307 (nI (100 * a + c))) 309 (σ.2.1 17 a)) := ⟨fun j j1 j2 j3 => by rw [xI_ne j3, xI_ne j1, x2.1], x2.2.1, x2.2.2⟩
      obtain ⟨r4, τ4, u1, u2, u3⟩ := hv a c ha (by omega) _ xr
      rw [u1, bind_pq, u3, bind_so, xI_get]
      refine ⟨nI (8 * a + c), _, _, rfl, ⟨fun j j1 j2 j3 => ?_, fun j hj => ?_, ?_⟩, found pre suf a c ho h1 (fun c' k1 k2 => hq c' k1 k2) (by omega) ⟨by rw [d8, m8]; omega, c1, by rw [d8]; exact hday, c2, by rw [d8, m8]; exact hb'⟩, Or.inr ⟨a, c, rfl, ha, by omega, rfl, ?_, ?_, xI_get⟩⟩
      · rw [xI_ne j2, u2.1]; exact xr.1 j j1 j2 j3
      · exact (u2.2.1 j hj).trans (x2.2.1 j hj)
      · exact u2.2.2.trans x2.2.2
      · rw [xI_ne (by decide), u2.1, xI_ne (by decide), xI_get]
      · rw [xI_ne (by decide), u2.1, xI_get]
  have outer : ∀ (m fu : Nat) (pre suf : List Nat) (τ' : XS), pre.length = m → m < fu → od = pre ++ suf → Lx τ τ' → (∀ a', a' ∈ suf → ∀ c', c' < 8 → ¬ QE σ nc b s d (8 * a' + c')) → ∃ r w τ1, Lw_ruling_L7_r fu τ' s d (nI m - 1) = some (w, τ1) ∧ Lr τ τ1 ∧ LastP (QE σ nc b s d) (8 * na) (fun e => σ.2.1 17 (e / 8)) r ∧ ((r = -1 ∧ w = dflt s ∧ τ1.1 307 = -5) ∨ ∃ a c, r = nI (8 * a + c) ∧ a < na ∧ c < nc a ∧ w = v a c ∧ τ1.1 307 = nI (100 * a + c) ∧ τ1.1 309 = σ.2.1 17 a ∧ τ1.1 308 = v a c) := by
    intro m
    induction m with
    | zero =>
      intro fu pre suf τ' hm hf ho x hq
      obtain ⟨f, rfl, -⟩ := fuel hf
      have hp : pre = [] := List.length_eq_zero_iff.mp hm
      rw [Lw_ruling_L7_r, if_pos (by decide)]
      have e : (if s = 7 then some ((18 : Int32), xI τ' 307 (-5)) else if s = 8 then some (40, xI τ' 307 (-5)) else some (0, xI τ' 307 (-5))) = some (dflt s, xI τ' 307 (-5)) := by
        unfold dflt
        split
        · rfl
        split <;> rfl
      rw [e]
      refine ⟨-1, _, _, rfl, ⟨fun j j1 j2 j3 => by rw [xI_ne j1, x.1], x.2.1, x.2.2⟩, Or.inl ⟨rfl, fun j hj hqj => ?_⟩, Or.inl ⟨rfl, rfl, xI_get⟩⟩
      have hmem : j / 8 ∈ suf := by
        have := (g8 (j / 8)).mpr (by omega)
        rw [ho, hp] at this
        exact this
      exact hq _ hmem (j % 8) (by omega) (by rw [show 8 * (j / 8) + j % 8 = j by omega]; exact hqj)
    | succ m ih =>
      intro fu pre suf τ' hm hf ho x hq
      obtain ⟨f, rfl, hf2⟩ := fuel hf
      obtain ⟨p0, a, hp, hp0⟩ := snoc_of pre hm
      have ho' : od = p0 ++ a :: suf := by rw [ho, hp]; simp
      have ha : a < na := (g8 a).mp (by rw [ho']; simp)
      have hl : m < od.length := by rw [ho', List.length_append, List.length_cons]; omega
      have e1 : nI (m + 1) - 1 = nI m := by rw [← nI_1, Int32.add_sub_cancel]
      have od1 : τ.2.1 303 m = nI a := by
        rw [g5 _ hl]
        congr 1
        subst hp0
        simp [ho']
      have down : (∀ c', c' < 8 → ¬ QE σ nc b s d (8 * a + c')) → ∀ τ', Lx τ τ' → _ := fun hno τ' x => ih f p0 (a :: suf) τ' hp0 (by omega) ho' x fun a' ha' => by
        rcases List.mem_cons.mp ha' with q | q
        · rw [q]; exact hno
        · exact hq a' q
      rw [Lw_ruling_L7_r, e1, if_neg (nI_not_lt0 (by omega)), x.2.1 303 (by decide), rd_nI (by omega) (by decide), od1, rd_nI (by omega) (by decide), x.2.2, (g3 a ha).1]
      rw [oN_some, oAe ha x.2.2, tFe τ' _ _ x.2.2, (g9 a ha).1]
      by_cases c1 : σ.2.1 17 a ≤ d
      case neg =>
        rw [if_neg c1]
        unfold Lw_ruling_J181
        rw [← Int32.sub_eq_add_neg]
        exact down (fun c' hc' q => c1 (by have := q.2.2.1; rw [show (8 * a + c') / 8 = a by omega] at this; exact this)) τ' x
      rw [if_pos c1, oAe ha x.2.2, tFe τ' _ _ x.2.2, (hnc a ha).2]
      unfold Lw_ruling_L50
      have := inner (Lw_ruling_L7_r f) p0 suf a ho' hq c1 (fun hno τ' x => by rw [hp0]; exact down hno τ' x) (nc a) 100000 τ' (Nat.le_refl _) (by have := (hnc a ha).1; omega) x (fun c' k1 k2 q => by
        have := q.1
        rw [show (8 * a + c') / 8 = a by omega, show (8 * a + c') % 8 = c' by omega] at this
        omega)
      rw [hp0] at this
      exact this
  have := outer od.length 100000 od [] τ rfl (by omega) (by rw [List.append_nil]) Lx.rfl (fun a' ha' => absurd ha' (by simp))
  rw [g4] at this
  unfold Lw_ruling Lw_ruling_L7
  rw [g2]
  exact this
