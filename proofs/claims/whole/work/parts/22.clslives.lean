/-! the class's loops over a person's entries, which lie by days -/
theorem and1 (x : Int32) : x &&& 1 = 0 ∨ x &&& 1 = 1 := by
  obtain ⟨j, hj, e⟩ := pk_andE x (m := 1) 1 (by decide)
  rw [e]
  rcases j with _ | _ | j
  · exact Or.inl rfl
  · exact Or.inr rfl
  · omega
def LastM (M : Nat → Prop) (d : Nat → Int32) (r : Int32) : Prop := (r = -1 ∧ ∀ i, ¬ M i) ∨ ∃ i, r = nI i ∧ M i ∧ ∀ j, M j → d j < d i ∨ (d j = d i ∧ j ≤ i)
def FirstM (M : Nat → Prop) (d : Nat → Int32) (r : Int32) : Prop := (r = -1 ∧ ∀ i, ¬ M i) ∨ ∃ i, r = nI i ∧ M i ∧ ∀ j, M j → d i < d j ∨ (d j = d i ∧ i ≤ j)
theorem LastM.toP {M S : Nat → Prop} {K : Nat} {d : Nat → Int32} {r : Int32} (h : LastM M d r) (e : ∀ i, M i ↔ i < K ∧ S i) : LastP S K d r := by
  rcases h with ⟨h1, h2⟩ | ⟨i, h1, h2, h3⟩
  · exact Or.inl ⟨h1, fun i hi hs => h2 i ((e i).mpr ⟨hi, hs⟩)⟩
  · exact Or.inr ⟨i, ((e i).mp h2).1, h1, ((e i).mp h2).2, fun j hj hs => h3 j ((e j).mpr ⟨hj, hs⟩)⟩
theorem FirstM.toP {M S : Nat → Prop} {K : Nat} {d : Nat → Int32} {r : Int32} (h : FirstM M d r) (e : ∀ i, M i ↔ i < K ∧ S i) : FirstP S K d r := by
  rcases h with ⟨h1, h2⟩ | ⟨i, h1, h2, h3⟩
  · exact Or.inl ⟨h1, fun i hi hs => h2 i ((e i).mpr ⟨hi, hs⟩)⟩
  · exact Or.inr ⟨i, ((e i).mp h2).1, h1, ((e i).mp h2).2, fun j hj hs => h3 j ((e j).mpr ⟨hj, hs⟩)⟩
/-- by days, like days by numbers -/
def ltD (d : Nat → Int32) (a b : Nat) : Prop := d a < d b ∨ (d a = d b ∧ a < b)
/-- person p's entries are the list l, from place a on -/
def Seg (τ : XS) (p a : Nat) (l : List Nat) : Prop := p < 24 ∧ τ.2.1 402 p = nI a ∧ τ.2.1 403 p = nI (a + l.length) ∧ a + l.length ≤ 400 ∧ (∀ (t : Nat) (h : t < l.length), τ.2.1 404 (a + t) = nI l[t]) ∧ (∀ e, e ∈ l → e < 200) ∧ l.Pairwise (ltD (τ.2.1 110))
theorem Seg.at {τ : XS} {p a e : Nat} {pre s : List Nat} (h : Seg τ p a (pre ++ e :: s)) : τ.2.1 404 (a + pre.length) = nI e ∧ e < 200 ∧ a + pre.length < 400 ∧ (∀ x, x ∈ pre → ltD (τ.2.1 110) x e) ∧ ∀ x, x ∈ s → ltD (τ.2.1 110) e x := by
  obtain ⟨-, -, -, h4, h5, h6, h7⟩ := h
  have hl : pre.length < (pre ++ e :: s).length := by rw [List.length_append, List.length_cons]; omega
  refine ⟨?_, h6 e (by simp), by rw [List.length_append, List.length_cons] at h4; omega, ?_, ?_⟩
  · rw [h5 _ hl]; congr 1; simp
  · intro x hx
    exact (List.pairwise_append.mp h7).2.2 x hx e List.mem_cons_self
  · intro x hx
    exact (List.pairwise_cons.mp (List.pairwise_append.mp h7).2.1).1 x hx
def KOk (τ : XS) (kinds : Int32) (e : Nat) : Prop := ((kinds >>> (τ.2.1 107 e &&& 31)) &&& 1) = 1
theorem Lv_lastOf_spec {τ : XS} {p a : Nat} {l : List Nat} (h : Seg τ p a l) (day kinds : Int32) : ∃ r, Lv_lastOf τ (nI p) day kinds = some r ∧ LastM (fun e => e ∈ l ∧ KOk τ kinds e ∧ τ.2.1 110 e ≤ day) (τ.2.1 110) r := by
  have h0 := h
  obtain ⟨hp, ha, ht, h4, -⟩ := h0
  have key : ∀ (s pre : List Nat) (r : Int32) (fu : Nat), pre ++ s = l → s.length < fu → LastM (fun e => e ∈ pre ∧ KOk τ kinds e ∧ τ.2.1 110 e ≤ day) (τ.2.1 110) r → ∃ r', Lv_lastOf_L11_r τ fu (nI p) day kinds r (nI (a + pre.length)) = some r' ∧ LastM (fun e => e ∈ l ∧ KOk τ kinds e ∧ τ.2.1 110 e ≤ day) (τ.2.1 110) r' := by
    intro s
    induction s with
    | nil =>
      intro pre r fu hl hf hr
      obtain ⟨f, rfl, -⟩ := fuel hf
      rw [List.append_nil] at hl
      subst hl
      exact ⟨r, by rw [Lv_lastOf_L11_r, rd_nI hp (by decide), ht, if_pos (Int32.le_refl _)], hr⟩
    | cons e s ih =>
      intro pre r fu hl hf hr
      obtain ⟨f, rfl, hf2⟩ := fuel hf
      subst hl
      obtain ⟨q1, q2, q3, q4, q5⟩ := h.at
      have nx := fun r => ih (pre ++ [e]) r f (by simp) (by rw [List.length_cons] at hf2; omega)
      simp only [List.length_append, List.length_singleton, ← Nat.add_assoc, ← nI_1] at nx
      rw [Lv_lastOf_L11_r, rd_nI hp (by decide), ht, if_neg (nI_ge (by rw [List.length_append, List.length_cons]; omega) (by omega)), rd_nI q3 (by decide), q1, rd_nI q2 (by decide)]
      by_cases h1 : τ.2.1 110 e ≤ day
      case neg =>
        rw [if_neg h1]
        refine ⟨r, rfl, ?_⟩
        have hx : ∀ x, (x ∈ pre ++ e :: s ∧ KOk τ kinds x ∧ τ.2.1 110 x ≤ day) ↔ (x ∈ pre ∧ KOk τ kinds x ∧ τ.2.1 110 x ≤ day) := by
          intro x
          constructor
          · rintro ⟨g1, g2, g3⟩
            refine ⟨?_, g2, g3⟩
            rcases List.mem_append.mp g1 with g | g
            · exact g
            · exfalso
              rcases List.mem_cons.mp g with rfl | g
              · exact h1 g3
              · have := q5 x g
                unfold ltD at this
                rw [i32_lt, i32_eq] at this
                rw [i32_le] at h1 g3
                omega
          · rintro ⟨g1, g2, g3⟩
            exact ⟨List.mem_append_left _ g1, g2, g3⟩
        rcases hr with ⟨e1, e2⟩ | ⟨i, e1, e2, e3⟩
        · exact Or.inl ⟨e1, fun i g => e2 i ((hx i).mp g)⟩
        · exact Or.inr ⟨i, e1, (hx i).mpr e2, fun j g => e3 j ((hx j).mp g)⟩
      rw [if_pos h1, rd_nI q2 (by decide)]
      simp only [Lv_lastOf_J69]
      by_cases h2 : ((kinds >>> (τ.2.1 107 e &&& 31)) &&& 1) = 0
      · rw [if_pos h2]
        have hk : ¬ KOk τ kinds e := fun g => by unfold KOk at g; rw [h2] at g; exact absurd g (by decide)
        refine nx r ?_
        have hx : ∀ x, (x ∈ pre ++ [e] ∧ KOk τ kinds x ∧ τ.2.1 110 x ≤ day) ↔ (x ∈ pre ∧ KOk τ kinds x ∧ τ.2.1 110 x ≤ day) := by
          intro x
          constructor
          · rintro ⟨g1, g2, g3⟩
            refine ⟨?_, g2, g3⟩
            rcases List.mem_append.mp g1 with g | g
            · exact g
            · rw [List.mem_singleton] at g; subst g; exact absurd g2 hk
          · rintro ⟨g1, g2, g3⟩
            exact ⟨List.mem_append_left _ g1, g2, g3⟩
        rcases hr with ⟨e1, e2⟩ | ⟨i, e1, e2, e3⟩
        · exact Or.inl ⟨e1, fun i g => e2 i ((hx i).mp g)⟩
        · exact Or.inr ⟨i, e1, (hx i).mpr e2, fun j g => e3 j ((hx j).mp g)⟩
      · rw [if_neg h2]
        refine nx (nI e) ?_
        refine Or.inr ⟨e, rfl, ⟨by simp, (and1 _).resolve_left h2, h1⟩, ?_⟩
        rintro j ⟨g1, g2, g3⟩
        rcases List.mem_append.mp g1 with g | g
        · have := q4 j g
          unfold ltD at this
          rcases this with t | ⟨t, t2⟩
          · exact Or.inl t
          · exact Or.inr ⟨t, by omega⟩
        · rw [List.mem_singleton] at g; subst g; exact Or.inr ⟨rfl, Nat.le_refl _⟩
  obtain ⟨r, e1, e2⟩ := key l [] (-1) 100000 rfl (by have := h4; omega) (Or.inl ⟨rfl, fun i g => absurd g.1 List.not_mem_nil⟩)
  exact ⟨r, by rw [Lv_lastOf, rd_nI hp (by decide), ha]; exact e1, e2⟩
theorem Lv_firstOf_spec {τ : XS} {p a : Nat} {l : List Nat} (h : Seg τ p a l) (day kinds : Int32) : ∃ r, Lv_firstOf τ (nI p) day kinds = some r ∧ FirstM (fun e => e ∈ l ∧ KOk τ kinds e ∧ τ.2.1 110 e ≤ day) (τ.2.1 110) r := by
  have h0 := h
  obtain ⟨hp, ha, ht, h4, -⟩ := h0
  have key : ∀ (s pre : List Nat) (fu : Nat), pre ++ s = l → s.length < fu → (∀ e, e ∈ pre → ¬ KOk τ kinds e) → ∃ r', Lv_firstOf_L8_r τ fu (nI p) day kinds (nI (a + pre.length)) = some r' ∧ FirstM (fun e => e ∈ l ∧ KOk τ kinds e ∧ τ.2.1 110 e ≤ day) (τ.2.1 110) r' := by
    intro s
    induction s with
    | nil =>
      intro pre fu hl hf hr
      obtain ⟨f, rfl, -⟩ := fuel hf
      rw [List.append_nil] at hl
      subst hl
      exact ⟨-1, by rw [Lv_firstOf_L8_r, rd_nI hp (by decide), ht, if_pos (Int32.le_refl _)], Or.inl ⟨rfl, fun i g => hr i g.1 g.2.1⟩⟩
    | cons e s ih =>
      intro pre fu hl hf hr
      obtain ⟨f, rfl, hf2⟩ := fuel hf
      subst hl
      obtain ⟨q1, q2, q3, q4, q5⟩ := h.at
      have nx := ih (pre ++ [e]) f (by simp) (by rw [List.length_cons] at hf2; omega)
      simp only [List.length_append, List.length_singleton, ← Nat.add_assoc, ← nI_1] at nx
      rw [Lv_firstOf_L8_r, rd_nI hp (by decide), ht, if_neg (nI_ge (by rw [List.length_append, List.length_cons]; omega) (by omega)), rd_nI q3 (by decide), q1, rd_nI q2 (by decide)]
      by_cases h1 : τ.2.1 110 e ≤ day
      case neg =>
        rw [if_neg h1]
        refine ⟨-1, rfl, Or.inl ⟨rfl, ?_⟩⟩
        rintro x ⟨g1, g2, g3⟩
        rcases List.mem_append.mp g1 with g | g
        · exact hr x g g2
        · rcases List.mem_cons.mp g with rfl | g
          · exact h1 g3
          · have := q5 x g
            unfold ltD at this
            rw [i32_lt, i32_eq] at this
            rw [i32_le] at h1 g3
            omega
      rw [if_pos h1, rd_nI q2 (by decide)]
      by_cases h2 : ((kinds >>> (τ.2.1 107 e &&& 31)) &&& 1) = 0
      · rw [if_pos h2]
        have hk : ¬ KOk τ kinds e := fun g => by unfold KOk at g; rw [h2] at g; exact absurd g (by decide)
        refine nx fun x hx => ?_
        rcases List.mem_append.mp hx with g | g
        · exact hr x g
        · rw [List.mem_singleton] at g; subst g; exact hk
      · rw [if_neg h2]
        refine ⟨nI e, rfl, Or.inr ⟨e, rfl, ⟨by simp, (and1 _).resolve_left h2, h1⟩, ?_⟩⟩
        rintro j ⟨g1, g2, g3⟩
        rcases List.mem_append.mp g1 with g | g
        · exact absurd g2 (hr j g)
        · rcases List.mem_cons.mp g with rfl | g
          · exact Or.inr ⟨rfl, Nat.le_refl _⟩
          · have := q5 j g
            unfold ltD at this
            rcases this with t | ⟨t, t2⟩
            · exact Or.inl t
            · exact Or.inr ⟨t.symm, by omega⟩
  obtain ⟨r, e1, e2⟩ := key l [] 100000 rfl (by have := h4; omega) (fun e g => absurd g List.not_mem_nil)
  exact ⟨r, by rw [Lv_firstOf, rd_nI hp (by decide), ha]; exact e1, e2⟩
theorem Seg.nodup {τ : XS} {p a : Nat} {l : List Nat} (h : Seg τ p a l) : l.Nodup := by
  refine List.Pairwise.imp ?_ h.2.2.2.2.2.2
  intro x y hxy e
  subst e
  unfold ltD at hxy
  rw [i32_lt] at hxy
  omega
theorem Lv_howMany_spec {τ : XS} {p a : Nat} {l : List Nat} (h : Seg τ p a l) (day kinds : Int32) : Lv_howMany τ (nI p) day kinds = some (nI (flL (fun e => KOk τ kinds e ∧ τ.2.1 110 e ≤ day) l).length) := by
  have h0 := h
  obtain ⟨hp, ha, ht, h4, -⟩ := h0
  have key : ∀ (s pre : List Nat) (fu : Nat), pre ++ s = l → s.length < fu → Lv_howMany_L11_r τ fu (nI p) day kinds (nI (flL (fun e => KOk τ kinds e ∧ τ.2.1 110 e ≤ day) pre).length) (nI (a + pre.length)) = some (nI (flL (fun e => KOk τ kinds e ∧ τ.2.1 110 e ≤ day) l).length) := by
    intro s
    induction s with
    | nil =>
      intro pre fu hl hf
      obtain ⟨f, rfl, -⟩ := fuel hf
      rw [List.append_nil] at hl
      subst hl
      rw [Lv_howMany_L11_r, rd_nI hp (by decide), ht, if_pos (Int32.le_refl _)]
    | cons e s ih =>
      intro pre fu hl hf
      obtain ⟨f, rfl, hf2⟩ := fuel hf
      subst hl
      obtain ⟨q1, q2, q3, q4, q5⟩ := h.at
      have nx := ih (pre ++ [e]) f (by simp) (by rw [List.length_cons] at hf2; omega)
      simp only [List.length_append, List.length_singleton, ← Nat.add_assoc, ← nI_1, flL_app] at nx
      rw [Lv_howMany_L11_r, rd_nI hp (by decide), ht, if_neg (nI_ge (by rw [List.length_append, List.length_cons]; omega) (by omega)), rd_nI q3 (by decide), q1, rd_nI q2 (by decide)]
      by_cases h1 : τ.2.1 110 e ≤ day
      case neg =>
        rw [if_neg h1, flL_app, flL_neg (fun g => h1 g.2), flL_none (l := s) ?_, List.append_nil]
        rintro x g ⟨g2, g3⟩
        have := q5 x g
        unfold ltD at this
        rw [i32_lt, i32_eq] at this
        rw [i32_le] at h1 g3
        omega
      rw [if_pos h1, rd_nI q2 (by decide)]
      simp only [Lv_howMany_J68]
      by_cases h2 : ((kinds >>> (τ.2.1 107 e &&& 31)) &&& 1) = 0
      · rw [if_pos h2]
        rw [flL_neg (a := e) (fun g => by have g1 := g.1; unfold KOk at g1; rw [h2] at g1; exact absurd g1 (by decide)), flL_nil, List.length_nil, Nat.add_zero] at nx
        rw [flL_app, List.length_append]
        exact nx
      · rw [if_neg h2]
        rw [flL_pos (a := e) ⟨(and1 _).resolve_left h2, h1⟩, flL_nil, List.length_singleton, ← nI_1] at nx
        rw [flL_app, List.length_append]
        exact nx
  have := key l [] 100000 rfl (by have := h4; omega)
  rw [Lv_howMany, rd_nI hp (by decide), ha]
  exact this
/-- coins paid by a person in a year -/
def PaidC (τ : XS) (year : Int32) (e : Nat) : Prop := τ.2.1 107 e = 6 ∧ τ.2.1 110 e / 100 = year
theorem Lv_paidIn_spec {τ : XS} {p a : Nat} {l : List Nat} (h : Seg τ p a l) (year : Int32) : Lv_paidIn τ (nI p) year = some (Int64.ofInt (sumL (fun e => (τ.2.1 109 e).toInt) (flL (PaidC τ year) l))) := by
  have h0 := h
  obtain ⟨hp, ha, ht, h4, -⟩ := h0
  have key : ∀ (s pre : List Nat) (fu : Nat), pre ++ s = l → s.length < fu → Lv_paidIn_L10_r τ fu (nI p) year (Int64.ofInt (sumL (fun e => (τ.2.1 109 e).toInt) (flL (PaidC τ year) pre))) (nI (a + pre.length)) = some (Int64.ofInt (sumL (fun e => (τ.2.1 109 e).toInt) (flL (PaidC τ year) l))) := by
    intro s
    induction s with
    | nil =>
      intro pre fu hl hf
      obtain ⟨f, rfl, -⟩ := fuel hf
      rw [List.append_nil] at hl
      subst hl
      rw [Lv_paidIn_L10_r, rd_nI hp (by decide), ht, if_pos (Int32.le_refl _)]
    | cons e s ih =>
      intro pre fu hl hf
      obtain ⟨f, rfl, hf2⟩ := fuel hf
      subst hl
      obtain ⟨q1, q2, q3, q4, q5⟩ := h.at
      have nx := ih (pre ++ [e]) f (by simp) (by rw [List.length_cons] at hf2; omega)
      simp only [List.length_append, List.length_singleton, ← Nat.add_assoc, ← nI_1] at nx
      rw [flL_app] at nx
      rw [Lv_paidIn_L10_r, rd_nI hp (by decide), ht, if_neg (nI_ge (by rw [List.length_append, List.length_cons]; omega) (by omega)), rd_nI q3 (by decide), q1, rd_nI q2 (by decide)]
      simp only [Lv_paidIn_J76, rd_nI q2 (show 200 < 2 ^ 31 by decide)]
      by_cases h1 : τ.2.1 107 e = 6
      · rw [if_pos h1]
        by_cases h2 : τ.2.1 110 e / 100 = year
        · rw [if_pos h2]
          rw [flL_pos (a := e) ⟨h1, h2⟩, flL_nil, sumL_app, sumL_one, Int64.ofInt_add] at nx
          exact nx
        · rw [if_neg h2]
          rw [flL_neg (a := e) (fun g => h2 g.2), flL_nil, List.append_nil] at nx
          exact nx
      · rw [if_neg h1]
        rw [flL_neg (a := e) (fun g => h1 g.1), flL_nil, List.append_nil] at nx
        exact nx
  have := key l [] 100000 rfl (by have := h4; omega)
  rw [Lv_paidIn, rd_nI hp (by decide), ha]
  exact this
