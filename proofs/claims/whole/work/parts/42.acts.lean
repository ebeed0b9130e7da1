/-! the acts: text on the one side, code on the other; what a clause says is told by its answers -/
def Lk (σ σ1 : MS) : Prop := (∀ j, j ≠ 46 → j ≠ 47 → j ≠ 48 → σ1.1 j = σ.1 j) ∧ σ1.2 = σ.2
def Lx (τ τ1 : XS) : Prop := τ1.1 = τ.1 ∧ (∀ j, j ≠ 306 → τ1.2.1 j = τ.2.1 j) ∧ τ1.2.2 = τ.2.2
theorem Lk.rfl {σ : MS} : Lk σ σ := ⟨fun _ _ _ _ => Eq.refl _, Eq.refl _⟩
theorem Lx.rfl {τ : XS} : Lx τ τ := ⟨Eq.refl _, fun _ _ => Eq.refl _, Eq.refl _⟩
theorem Lk.trans {a b c : MS} (h : Lk a b) (g : Lk b c) : Lk a c := ⟨fun j h1 h2 h3 => (g.1 j h1 h2 h3).trans (h.1 j h1 h2 h3), g.2.trans h.2⟩
theorem Lx.trans {a b c : XS} (h : Lx a b) (g : Lx b c) : Lx a c := ⟨g.1.trans h.1, fun j h1 => (g.2.1 j h1).trans (h.2.1 j h1), g.2.2.trans h.2.2⟩
theorem Lk.same {a b : MS} (h : Lk a b) : SameM a b := ⟨fun j _ h2 h3 h4 => h.1 j h2 h3 h4, fun j _ _ _ => by rw [h.2], by rw [h.2]⟩
theorem Lx.same {a b : XS} (h : Lx a b) : SameX a b := ⟨fun j _ _ _ => by rw [h.1], fun j _ _ h3 _ _ _ _ => h.2.1 j h3, h.2.2⟩
/-- clause c of act a answers alike, whatever the names -/
def ClauseI (σ : MS) (τ : XS) (a c h : Nat) : Prop := ∀ (σ' : MS) (τ' : XS), (∀ i, i < 200 → σ'.2.1 22 (200 * a + i) = σ.2.1 22 (200 * a + i)) → σ'.2.1 23 (8 * a + c) = σ.2.1 23 (8 * a + c) → σ'.2.1 24 (8 * a + c) = σ.2.1 24 (8 * a + c) → σ'.2.1 25 a = σ.2.1 25 a → h < nA τ' → tA τ' h 8 = tA τ h 8 → (∀ k, k < 5 → σ'.2.1 49 k = τ'.2.1 305 k) →
  (∃ (b : Int32) (σ1 : MS) (r : Int32) (τ1 : XS), M_isSo σ' (nI a) (nI c) = some (b, σ1) ∧ Lk σ' σ1 ∧ (b = 0 ∨ b = 1) ∧ Lw_reckon τ' h (tA τ h 5 c) (tA τ h 6 c) = some (r, τ1) ∧ Lx τ' τ1 ∧ (r = 0 ↔ b = 0)) ∧
  (∃ (v : Int32) (σ1 : MS) (r : Int32) (τ1 : XS), M_comesTo σ' (nI a) (nI c) = some (v, σ1) ∧ Lk σ' σ1 ∧ Lw_reckon τ' h (tA τ h 4 c) (tA τ h 5 c) = some (r, τ1) ∧ Lx τ' τ1 ∧ Lw_bounded τ1 r = some v ∧ InR v 0 9999)
/-- na acts (the ninth is the one that is tried), h a is the class's act a, od its order by days -/
def ActsR (σ : MS) (τ : XS) (na : Nat) (h : Nat → Nat) (od : List Nat) : Prop := na ≤ 9 ∧ τ.1 302 = nI na ∧
  (∀ a, a < na → τ.2.2.2.2.1 a = some (h a) ∧ h a < nA τ) ∧
  od.length = na ∧ (∀ (k : Nat) (q : k < od.length), τ.2.1 303 k = nI od[k]) ∧ od.Nodup ∧ od.Pairwise (ltD (σ.2.1 17)) ∧ (∀ a, a ∈ od ↔ a < na) ∧
  (∀ a, a < na → tF τ (h a) 0 = σ.2.1 17 a ∧ DayOk (σ.2.1 17 a) ∧ ∃ nc, nc ≤ 8 ∧ σ.2.1 18 a = nI nc ∧ tF τ (h a) 2 = nI nc ∧ ((tF τ (h a) 1 = 0) ↔ (σ.2.1 19 a = 0)) ∧ ∀ c, c < nc → tA τ (h a) 3 c = σ.2.1 20 (8 * a + c) ∧ tA τ (h a) 7 c = σ.2.1 21 (8 * a + c) ∧ (0 ≤ (σ.2.1 21 (8 * a + c)).toInt ∧ (σ.2.1 21 (8 * a + c)).toInt ≤ 10000) ∧ ClauseI σ τ a c (h a))
def ActI (σ : MS) (τ : XS) : Prop := ∃ (na : Nat) (h : Nat → Nat) (od : List Nat), na ≤ 8 ∧ σ.1 16 = nI na ∧ ActsR σ τ na h od ∧ (∀ a b, a < na → b < na → h a = h b → a = b) ∧ (∀ s, τ.2.2.2.2.2.1 = some s → s < nA τ ∧ ∀ a, a < na → h a ≠ s) ∧ (∀ a, na ≤ a → a < 9 → τ.2.2.2.2.1 a = none) ∧ okR τ ∧ nA τ ≤ na + 1 ∧ (τ.2.2.2.2.2.1 = none → nA τ ≤ na)
theorem ClauseI.eqs {σ σ' : MS} {τ τ' : XS} {a c h : Nat} (g : ClauseI σ τ a c h) (e1 : σ'.2.1 22 = σ.2.1 22) (e2 : σ'.2.1 23 = σ.2.1 23) (e3 : σ'.2.1 24 = σ.2.1 24) (e4 : σ'.2.1 25 = σ.2.1 25) (e : τ'.2.2.2 = τ.2.2.2) : ClauseI σ' τ' a c h := by
  have et : ∀ j, tA τ' h j = tA τ h j := fun j => by unfold tA; rw [e]
  intro s t h1 h2 h3 h4 h5 h6 h7
  rw [et 4, et 5, et 6]
  exact g s t (fun i hi => (h1 i hi).trans (by rw [e1])) (h2.trans (by rw [e2])) (h3.trans (by rw [e3])) (h4.trans (by rw [e4])) h5 (h6.trans (et 8)) h7
/-- only the act's own places matter -/
theorem ClauseI.own {σ σ' : MS} {τ τ' : XS} {a c h : Nat} (g : ClauseI σ τ a c h) (e1 : ∀ i, i < 200 → σ'.2.1 22 (200 * a + i) = σ.2.1 22 (200 * a + i)) (e2 : σ'.2.1 23 (8 * a + c) = σ.2.1 23 (8 * a + c)) (e3 : σ'.2.1 24 (8 * a + c) = σ.2.1 24 (8 * a + c)) (e4 : σ'.2.1 25 a = σ.2.1 25 a) (et : ∀ j, tA τ' h j = tA τ h j) : ClauseI σ' τ' a c h := by
  intro s t h1 h2 h3 h4 h5 h6 h7
  rw [et 4, et 5, et 6]
  exact g s t (fun i hi => (h1 i hi).trans (e1 i hi)) (h2.trans e2) (h3.trans e3) (h4.trans e4) h5 (h6.trans (et 8)) h7
theorem ActsR.eqs {σ σ' : MS} {τ τ' : XS} {na : Nat} {h : Nat → Nat} {od : List Nat} (g : ActsR σ τ na h od) (c1 : σ'.2.1 17 = σ.2.1 17) (c2 : σ'.2.1 18 = σ.2.1 18) (c3 : σ'.2.1 19 = σ.2.1 19) (c4 : σ'.2.1 20 = σ.2.1 20) (c5 : σ'.2.1 21 = σ.2.1 21) (e1 : σ'.2.1 22 = σ.2.1 22) (e2 : σ'.2.1 23 = σ.2.1 23) (e3 : σ'.2.1 24 = σ.2.1 24) (e4 : σ'.2.1 25 = σ.2.1 25) (x1 : τ'.1 302 = τ.1 302) (x2 : τ'.2.1 303 = τ.2.1 303) (e : τ'.2.2.2 = τ.2.2.2) : ActsR σ' τ' na h od := by
  obtain ⟨g1, g2, g3, g4, g5, g6, g7, g8, g9⟩ := g
  have eA : ∀ k j, tA τ' k j = tA τ k j := fun k j => by unfold tA; rw [e]
  have eF : ∀ k j, tF τ' k j = tF τ k j := fun k j => by unfold tF; rw [e]
  have eN : nA τ' = nA τ := by unfold nA; rw [e]
  refine ⟨g1, x1.trans g2, fun a ha => ?_, g4, fun k q => by rw [x2]; exact g5 k q, g6, by rw [c1]; exact g7, g8, fun a ha => ?_⟩
  · rw [e, eN]; exact g3 a ha
  · obtain ⟨y1, y2, nc, y3, y4, y5, y6, y7⟩ := g9 a ha
    refine ⟨by rw [eF, c1]; exact y1, by rw [c1]; exact y2, nc, y3, by rw [c2]; exact y4, by rw [eF]; exact y5, by rw [eF, c3]; exact y6, fun c hc => ?_⟩
    obtain ⟨z1, z2, z3, z4⟩ := y7 c hc
    exact ⟨by rw [eA, c4]; exact z1, by rw [eA, c5]; exact z2, by rw [c5]; exact z3, z4.eqs e1 e2 e3 e4 e⟩
theorem ActI_stb : Stb ActI := by
  intro σ σ' τ τ' h f1 f2 f3 f4 f5 f6 f7 f8 f9 f10 x1 x2 x3
  obtain ⟨na, hh, od, g1, g2, g3, g4, g5, g6, g7, g8⟩ := h
  have eN : nA τ' = nA τ := by unfold nA; rw [x3]
  refine ⟨na, hh, od, g1, f1.trans g2, g3.eqs f2 f3 f4 f5 f6 f7 f8 f9 f10 x1 x2 x3, g4, fun s hs => ?_, fun a ha ha' => by rw [x3]; exact g6 a ha ha', ?_, by rw [eN, x3]; exact g8⟩
  · rw [x3] at hs
    rw [eN]
    exact g5 s hs
  · intro i a ha
    rw [x3] at ha
    rw [eN]
    exact g7 i a ha
theorem ActI_count {σ : MS} {τ : XS} (h : ActI σ τ) : τ.1 302 = σ.1 16 := by
  obtain ⟨na, hh, od, g1, g2, g3, -⟩ := h
  rw [g2, g3.2.1]
/-- what a clause answers by these names -/
theorem clause_vals {σ : MS} {τ : XS} {a c h : Nat} (g : ClauseI σ τ a c h) (hh : h < nA τ) (hn : ∀ k, k < 5 → σ.2.1 49 k = τ.2.1 305 k) : ∃ b v : Int32, (b = 0 ∨ b = 1) ∧ InR v 0 9999 ∧
    (∀ σ', Lk σ σ' → ∃ σ1, M_isSo σ' (nI a) (nI c) = some (b, σ1) ∧ Lk σ' σ1) ∧
    (∀ σ', Lk σ σ' → ∃ σ1, M_comesTo σ' (nI a) (nI c) = some (v, σ1) ∧ Lk σ' σ1) ∧
    (∀ τ', Lx τ τ' → ∃ r τ1, Lw_reckon τ' h (tA τ h 5 c) (tA τ h 6 c) = some (r, τ1) ∧ Lx τ' τ1 ∧ (r = 0 ↔ b = 0)) ∧
    (∀ τ', Lx τ τ' → ∃ r τ1, Lw_reckon τ' h (tA τ h 4 c) (tA τ h 5 c) = some (r, τ1) ∧ Lx τ' τ1 ∧ Lw_bounded τ1 r = some v) := by
  have both : ∀ σ' τ', Lk σ σ' → Lx τ τ' → _ := fun σ' τ' k x => g σ' τ' (fun i _ => by rw [k.2]) (by rw [k.2]) (by rw [k.2]) (by rw [k.2]) (by unfold nA; rw [x.2.2]; exact hh) (by unfold tA; rw [x.2.2]) (fun q hq => by rw [k.2, x.2.1 305 (by decide)]; exact hn q hq)
  obtain ⟨⟨b, σ1, r, τ1, p1, p2, p3, p4, p5, p6⟩, ⟨v, σ2, r', τ2, q1, q2, q3, q4, q5, q6⟩⟩ := both σ τ Lk.rfl Lx.rfl
  have b01' : ∀ {x y : Int32}, (x = 0 ∨ x = 1) → (y = 0 ∨ y = 1) → (x = 0 ↔ y = 0) → x = y := by
    rintro x y (rfl | rfl) (rfl | rfl) h
    · rfl
    · exact absurd (h.mp rfl) (by decide)
    · exact absurd (h.mpr rfl) (by decide)
    · rfl
  refine ⟨b, v, p3, q6, fun σ' k => ?_, fun σ' k => ?_, fun τ' x => ?_, fun τ' x => ?_⟩
  · obtain ⟨⟨b', s1, r2, t1, u1, u2, u3, u4, u5, u6⟩, -⟩ := both σ' τ k Lx.rfl
    rw [p4] at u4
    cases u4
    have : b' = b := b01' u3 p3 (u6.symm.trans p6)
    subst this
    exact ⟨s1, u1, u2⟩
  · obtain ⟨-, ⟨v', s1, r2, t1, u1, u2, u3, u4, u5, u6⟩⟩ := both σ' τ k Lx.rfl
    rw [q3] at u3
    cases u3
    rw [q5] at u5
    cases u5
    exact ⟨s1, u1, u2⟩
  · obtain ⟨⟨b', s1, r2, t1, u1, u2, u3, u4, u5, u6⟩, -⟩ := both σ τ' Lk.rfl x
    rw [p1] at u1
    cases u1
    exact ⟨r2, t1, u4, u5, u6⟩
  · obtain ⟨-, ⟨v', s1, r2, t1, u1, u2, u3, u4, u5, u6⟩⟩ := both σ τ' Lk.rfl x
    rw [q1] at u1
    cases u1
    exact ⟨r2, t1, u3, u4, u5⟩
