/-! class and reference rule alike, by the same names -/
theorem clause_valR {σ : MS} {τ : XS} {a c h : Nat} (g : ClauseI σ τ a c h) (hh : h < nA τ) (hn : ∀ k, k < 5 → σ.2.1 49 k = τ.2.1 305 k) {v : Int32} (hv : ∃ σ1, M_comesTo σ (nI a) (nI c) = some (v, σ1)) : ∀ τ', Lr τ τ' → ∃ r τ1, Lw_reckon τ' h (tA τ h 4 c) (tA τ h 5 c) = some (r, τ1) ∧ Lx τ' τ1 ∧ Lw_bounded τ1 r = some v := by
  intro τ' x
  obtain ⟨-, ⟨v', s1, r2, t1, u1, u2, u3, u4, u5, u6⟩⟩ := g σ τ' (fun _ _ => rfl) rfl rfl rfl (by unfold nA; rw [x.2.2]; exact hh) (by unfold tA; rw [x.2.2]) (fun q hq => by rw [x.2.1 305 (by decide)]; exact hn q hq)
  obtain ⟨s2, e⟩ := hv
  rw [e] at u1
  cases u1
  exact ⟨r2, t1, u3, u4, u5⟩
theorem rule_core {σ : MS} {τ : XS} {na : Nat} {h : Nat → Nat} {od : List Nat} (g : ActsR σ τ na h od) (h16 : σ.1 16 + σ.1 50 = nI na) (hn : ∀ k, k < 5 → σ.2.1 49 k = τ.2.1 305 k) (s d : Int32) : ∃ r w σ1 τ1, M_governs σ s d = some (r, σ1) ∧ Lk σ σ1 ∧ Lw_ruling τ s d = some (w, τ1) ∧ Lr τ τ1 ∧ InR w 0 9999 ∧
    ((r = -1 ∧ w = dflt s ∧ τ1.1 307 = -5) ∨ ∃ a c, r = nI (8 * a + c) ∧ a < na ∧ c < 8 ∧ τ1.1 307 = nI (100 * a + c) ∧ τ1.1 309 = σ.2.1 17 a ∧ ∃ σ2, M_comesTo σ1 (nI a) (nI c) = some (w, σ2) ∧ Lk σ1 σ2) := by
  have gg := g
  obtain ⟨g1, g2, g3, g4, g5, g6, g7, g8, g9⟩ := g
  have ncE : ∃ nc : Nat → Nat, ∀ a, a < na → nc a ≤ 8 ∧ σ.2.1 18 a = nI (nc a) ∧ tF τ (h a) 2 = nI (nc a) ∧ ∀ c, c < nc a → tA τ (h a) 3 c = σ.2.1 20 (8 * a + c) ∧ tA τ (h a) 7 c = σ.2.1 21 (8 * a + c) ∧ ClauseI σ τ a c (h a) := by
    have : ∀ a, ∃ n : Nat, a < na → n ≤ 8 ∧ σ.2.1 18 a = nI n ∧ tF τ (h a) 2 = nI n ∧ ∀ c, c < n → tA τ (h a) 3 c = σ.2.1 20 (8 * a + c) ∧ tA τ (h a) 7 c = σ.2.1 21 (8 * a + c) ∧ ClauseI σ τ a c (h a) := by
      intro a
      by_cases ha : a < na
      · obtain ⟨-, -, n, n1, n2, n3, -, n4⟩ := g9 a ha
        exact ⟨n, fun _ => ⟨n1, n2, n3, fun c hc => ⟨(n4 c hc).1, (n4 c hc).2.1, (n4 c hc).2.2.2⟩⟩⟩
      · exact ⟨0, fun q => absurd q ha⟩
    exact Classical.axiomOfChoice this
  obtain ⟨nc, hnc⟩ := ncE
  have bvE : ∃ f : Nat × Nat → Int32 × Int32, ∀ p : Nat × Nat, p.1 < na → p.2 < nc p.1 → ((f p).1 = 0 ∨ (f p).1 = 1) ∧ InR (f p).2 0 9999 ∧
      (∀ σ', Lk σ σ' → ∃ σ1, M_isSo σ' (nI p.1) (nI p.2) = some ((f p).1, σ1) ∧ Lk σ' σ1) ∧
      (∀ σ', Lk σ σ' → ∃ σ1, M_comesTo σ' (nI p.1) (nI p.2) = some ((f p).2, σ1) ∧ Lk σ' σ1) ∧
      (∀ τ', Lx τ τ' → ∃ r τ1, Lw_reckon τ' (h p.1) (tA τ (h p.1) 5 p.2) (tA τ (h p.1) 6 p.2) = some (r, τ1) ∧ Lx τ' τ1 ∧ (r = 0 ↔ (f p).1 = 0)) ∧
      (∀ τ', Lr τ τ' → ∃ r τ1, Lw_reckon τ' (h p.1) (tA τ (h p.1) 4 p.2) (tA τ (h p.1) 5 p.2) = some (r, τ1) ∧ Lx τ' τ1 ∧ Lw_bounded τ1 r = some (f p).2) := by
    refine Classical.axiomOfChoice (r := fun (p : Nat × Nat) (y : Int32 × Int32) => p.1 < na → p.2 < nc p.1 → (y.1 = 0 ∨ y.1 = 1) ∧ InR y.2 0 9999 ∧
      (∀ σ', Lk σ σ' → ∃ σ1, M_isSo σ' (nI p.1) (nI p.2) = some (y.1, σ1) ∧ Lk σ' σ1) ∧
      (∀ σ', Lk σ σ' → ∃ σ1, M_comesTo σ' (nI p.1) (nI p.2) = some (y.2, σ1) ∧ Lk σ' σ1) ∧
      (∀ τ', Lx τ τ' → ∃ r τ1, Lw_reckon τ' (h p.1) (tA τ (h p.1) 5 p.2) (tA τ (h p.1) 6 p.2) = some (r, τ1) ∧ Lx τ' τ1 ∧ (r = 0 ↔ y.1 = 0)) ∧
      (∀ τ', Lr τ τ' → ∃ r τ1, Lw_reckon τ' (h p.1) (tA τ (h p.1) 4 p.2) (tA τ (h p.1) 5 p.2) = some (r, τ1) ∧ Lx τ' τ1 ∧ Lw_bounded τ1 r = some y.2)) fun p => ?_
    by_cases hp : p.1 < na ∧ p.2 < nc p.1
    · have hc := ((hnc p.1 hp.1).2.2.2 p.2 hp.2).2.2
      obtain ⟨b, v, v1, v2, v3, v4, v5, v6⟩ := clause_vals hc (g3 p.1 hp.1).2 hn
      have vR := clause_valR hc (g3 p.1 hp.1).2 hn (v := v) (by obtain ⟨s1, q, -⟩ := v4 σ Lk.rfl; exact ⟨s1, q⟩)
      exact ⟨(b, v), fun _ _ => ⟨v1, v2, v3, v4, v5, vR⟩⟩
    · exact ⟨(0, 0), fun q1 q2 => absurd ⟨q1, q2⟩ hp⟩
  obtain ⟨f, hf⟩ := bvE
  obtain ⟨r, σ1, m1, m2, m3⟩ := M_governs_spec g1 h16 nc (fun a ha => ⟨(hnc a ha).1, (hnc a ha).2.1⟩) (fun a c => (f (a, c)).1) (fun a c ha hc => ⟨(hf (a, c) ha hc).1, (hf (a, c) ha hc).2.2.1⟩) s d
  obtain ⟨r', w, τ1, x1, x2, x3, x4⟩ := Lw_ruling_spec gg nc (fun a ha => ⟨(hnc a ha).1, (hnc a ha).2.2.1⟩) (fun a c ha hc => ⟨((hnc a ha).2.2.2 c hc).1, ((hnc a ha).2.2.2 c hc).2.1⟩) (fun a c => (f (a, c)).1) (fun a c => (f (a, c)).2) (fun a c ha hc => ⟨(hf (a, c) ha hc).1, (hf (a, c) ha hc).2.2.2.2.1⟩) (fun a c ha hc => (hf (a, c) ha hc).2.2.2.2.2) s d
  have er : r' = r := x3.uniq m3
  subst er
  rcases x4 with ⟨y1, y2, y3⟩ | ⟨a, c, y1, ya, yc, y2, y3, y4, -⟩
  · refine ⟨r', w, σ1, τ1, m1, m2, x1, x2, ?_, Or.inl ⟨y1, y2, y3⟩⟩
    rw [y2]
    unfold dflt
    split
    · exact ⟨by decide, by decide⟩
    split
    · exact ⟨by decide, by decide⟩
    · exact ⟨by decide, by decide⟩
  · obtain ⟨z1, z2, z3, z4, -⟩ := hf (a, c) ya yc
    obtain ⟨σ2, q1, q2⟩ := z4 σ1 m2
    have h8 := (hnc a ya).1
    have y2' : w = (f (a, c)).2 := y2
    exact ⟨r', _, σ1, τ1, m1, m2, by rw [x1, y2'], x2, z2, Or.inr ⟨a, c, y1, ya, by omega, y3, y4, σ2, q1, q2⟩⟩
