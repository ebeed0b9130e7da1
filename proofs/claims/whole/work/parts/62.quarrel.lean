/-! quarrels -/
theorem acts_vals {σ : MS} {τ : XS} {na : Nat} {h : Nat → Nat} {od : List Nat} (g : ActsR σ τ na h od) (hn : ∀ k, k < 5 → σ.2.1 49 k = τ.2.1 305 k) : ∃ (nc : Nat → Nat) (b v : Nat → Nat → Int32), (∀ a, a < na → nc a ≤ 8 ∧ σ.2.1 18 a = nI (nc a) ∧ tF τ (h a) 2 = nI (nc a) ∧ ∀ c, c < nc a → tA τ (h a) 3 c = σ.2.1 20 (8 * a + c) ∧ tA τ (h a) 7 c = σ.2.1 21 (8 * a + c)) ∧
    ∀ a c, a < na → c < nc a → (b a c = 0 ∨ b a c = 1) ∧
      (∀ σ', Lk σ σ' → ∃ σ1, M_isSo σ' (nI a) (nI c) = some (b a c, σ1) ∧ Lk σ' σ1) ∧
      (∀ σ', Lk σ σ' → ∃ σ1, M_comesTo σ' (nI a) (nI c) = some (v a c, σ1) ∧ Lk σ' σ1) ∧
      (∀ τ', Lr τ τ' → ∃ r τ1, Lw_reckon τ' (h a) (tA τ (h a) 5 c) (tA τ (h a) 6 c) = some (r, τ1) ∧ Lx τ' τ1 ∧ (r = 0 ↔ b a c = 0)) ∧
      (∀ τ', Lr τ τ' → ∃ r τ1, Lw_reckon τ' (h a) (tA τ (h a) 4 c) (tA τ (h a) 5 c) = some (r, τ1) ∧ Lx τ' τ1 ∧ Lw_bounded τ1 r = some (v a c)) := by
  obtain ⟨g1, g2, g3, g4, g5, g6, g7, g8, g9⟩ := g
  have ncE : ∃ nc : Nat → Nat, ∀ a, a < na → nc a ≤ 8 ∧ σ.2.1 18 a = nI (nc a) ∧ tF τ (h a) 2 = nI (nc a) ∧ ∀ c, c < nc a → tA τ (h a) 3 c = σ.2.1 20 (8 * a + c) ∧ tA τ (h a) 7 c = σ.2.1 21 (8 * a + c) ∧ ClauseI σ τ a c (h a) := by
    have : ∀ a, ∃ n : Nat, a < na → n ≤ 8 ∧ σ.2.1 18 a = nI n ∧ tF τ (h a) 2 = nI n ∧ ∀ c, c < n → tA τ (h a) 3 c = σ.2.1 20 (8 * a + c) ∧ tA τ (h a) 7 c = σ.2.1 21 (8 * a + c) ∧ ClauseI σ τ a c (h a) := by
      intro a
      by_cases ha : a < na
      · obtain ⟨-, -, n, n1, n2, n3, -, n4⟩ := g9 a ha
        exact ⟨n, fun _ => ⟨n1, n2, n3, fun c hc => ⟨(n4 c hc).1, (n4 c hc).2.1, (n4 c hc).2.2.2⟩⟩⟩
      · exact ⟨0, fun q => absurd q ha⟩
    exact Classical.axiomOfChoice this
  obtain ⟨nc, hnc⟩ := ncE
  have bvE : ∃ f : Nat × Nat → Int32 × Int32, ∀ p : Nat × Nat, p.1 < na → p.2 < nc p.1 → ((f p).1 = 0 ∨ (f p).1 = 1) ∧
      (∀ σ', Lk σ σ' → ∃ σ1, M_isSo σ' (nI p.1) (nI p.2) = some ((f p).1, σ1) ∧ Lk σ' σ1) ∧
      (∀ σ', Lk σ σ' → ∃ σ1, M_comesTo σ' (nI p.1) (nI p.2) = some ((f p).2, σ1) ∧ Lk σ' σ1) ∧
      (∀ τ', Lr τ τ' → ∃ r τ1, Lw_reckon τ' (h p.1) (tA τ (h p.1) 5 p.2) (tA τ (h p.1) 6 p.2) = some (r, τ1) ∧ Lx τ' τ1 ∧ (r = 0 ↔ (f p).1 = 0)) ∧
      (∀ τ', Lr τ τ' → ∃ r τ1, Lw_reckon τ' (h p.1) (tA τ (h p.1) 4 p.2) (tA τ (h p.1) 5 p.2) = some (r, τ1) ∧ Lx τ' τ1 ∧ Lw_bounded τ1 r = some (f p).2) := by
    refine Classical.axiomOfChoice (r := fun (p : Nat × Nat) (y : Int32 × Int32) => p.1 < na → p.2 < nc p.1 → (y.1 = 0 ∨ y.1 = 1) ∧
      (∀ σ', Lk σ σ' → ∃ σ1, M_isSo σ' (nI p.1) (nI p.2) = some (y.1, σ1) ∧ Lk σ' σ1) ∧
      (∀ σ', Lk σ σ' → ∃ σ1, M_comesTo σ' (nI p.1) (nI p.2) = some (y.2, σ1) ∧ Lk σ' σ1) ∧
      (∀ τ', Lr τ τ' → ∃ r τ1, Lw_reckon τ' (h p.1) (tA τ (h p.1) 5 p.2) (tA τ (h p.1) 6 p.2) = some (r, τ1) ∧ Lx τ' τ1 ∧ (r = 0 ↔ y.1 = 0)) ∧
      (∀ τ', Lr τ τ' → ∃ r τ1, Lw_reckon τ' (h p.1) (tA τ (h p.1) 4 p.2) (tA τ (h p.1) 5 p.2) = some (r, τ1) ∧ Lx τ' τ1 ∧ Lw_bounded τ1 r = some y.2)) fun p => ?_
    by_cases hp : p.1 < na ∧ p.2 < nc p.1
    · have hc := ((hnc p.1 hp.1).2.2.2 p.2 hp.2).2.2
      have hA := (g3 p.1 hp.1).2
      obtain ⟨b, v, v1, v2, v3, v4, v5, v6⟩ := clause_vals hc hA hn
      have vR := clause_valR hc hA hn (v := v) (by obtain ⟨s1, q, -⟩ := v4 σ Lk.rfl; exact ⟨s1, q⟩)
      refine ⟨(b, v), fun _ _ => ⟨v1, v3, v4, fun τ' x => ?_, vR⟩⟩
      obtain ⟨⟨b', s1, r2, t1, u1, u2, u3, u4, u5, u6⟩, -⟩ := hc σ τ' (fun _ _ => rfl) rfl rfl rfl (by unfold nA; rw [x.2.2]; exact hA) (by unfold tA; rw [x.2.2]) (fun q hq => by rw [x.2.1 305 (by decide)]; exact hn q hq)
      obtain ⟨s2, e, -⟩ := v3 σ Lk.rfl
      rw [e] at u1
      have eb := (Prod.mk.inj (Option.some.inj u1)).1
      rw [← eb] at u6
      exact ⟨r2, t1, u4, u5, u6⟩
    · exact ⟨(0, 0), fun q1 q2 => absurd ⟨q1, q2⟩ hp⟩
  obtain ⟨f, hf⟩ := bvE
  exact ⟨nc, fun a c => (f (a, c)).1, fun a c => (f (a, c)).2, fun a ha => ⟨(hnc a ha).1, (hnc a ha).2.1, (hnc a ha).2.2.1, fun c hc => ⟨((hnc a ha).2.2.2 c hc).1, ((hnc a ha).2.2.2 c hc).2.1⟩⟩, fun a c ha hc => hf (a, c) ha hc⟩
/-- another clause of the same day that comes to something else -/
def QQ (σ : MS) (nc : Nat → Nat) (b v : Nat → Nat → Int32) (s d D V : Int32) (e : Nat) : Prop := e % 8 < nc (e / 8) ∧ σ.2.1 20 e = s ∧ σ.2.1 17 (e / 8) = D ∧ d < σ.2.1 21 e ∧ b (e / 8) (e % 8) = 1 ∧ v (e / 8) (e % 8) ≠ V
def zD : Nat → Int32 := fun _ => 0
theorem LastP.top {S : Nat → Prop} {K : Nat} {r : Int32} (h : LastP S K zD r) (hs : S K) (hK : K < 2 ^ 31) : LastP S (K + 1) zD (nI K) := by
  rcases id h with ⟨e, -⟩ | ⟨i, hi, e, -⟩
  · exact h.take hs hK (Or.inl e)
  · exact h.take hs hK (Or.inr ⟨i, hi, e, by unfold zD; decide⟩)
theorem M_quarrel_spec {σ : MS} {na : Nat} (hna : na ≤ 9) (h16 : σ.1 16 = nI na) (nc : Nat → Nat) (hnc : ∀ a, a < na → nc a ≤ 8 ∧ σ.2.1 18 a = nI (nc a)) (b v : Nat → Nat → Int32) (hb : ∀ a c, a < na → c < nc a → (b a c = 0 ∨ b a c = 1) ∧ (∀ σ', Lk σ σ' → ∃ σ1, M_isSo σ' (nI a) (nI c) = some (b a c, σ1) ∧ Lk σ' σ1) ∧ (∀ σ', Lk σ σ' → ∃ σ1, M_comesTo σ' (nI a) (nI c) = some (v a c, σ1) ∧ Lk σ' σ1)) (s d V : Int32) {ab cb : Nat} (hab : ab < na) (hcb : cb < nc ab) (hV : v ab cb = V) (hD : σ.2.1 17 ab ≤ d) : ∀ σ', Lk σ σ' → ∃ r σ1, M_quarrel_L74 100000 σ' s d (nI (8 * ab + cb)) V (-1) 0 = (M_placed σ1 r).bind (fun r7 => some (r7, σ1)) ∧ Lk σ σ1 ∧ LastP (QQ σ nc b v s d (σ.2.1 17 ab) V) (8 * na) zD r := by
  have n8b := (hnc ab hab).1
  have eb8 : nI (8 * ab + cb) / 8 = nI ab := by rw [show (8 : Int32) = nI 8 from rfl, pk_div (by omega) (by decide) (by decide), show (8 * ab + cb) / 8 = ab by omega]
  have inner : ∀ (k74 : MS → Int32 → Int32 → Int32 → Int32 → Int32 → Int32 → Option (Int32 × MS)) (a : Nat), a < na → (∀ σ' r, Lk σ σ' → LastP (QQ σ nc b v s d (σ.2.1 17 ab) V) (8 * (a + 1)) zD r → ∃ r1 σ1, k74 σ' s d (nI (8 * ab + cb)) V r (nI (a + 1)) = (M_placed σ1 r1).bind (fun r7 => some (r7, σ1)) ∧ Lk σ σ1 ∧ LastP (QQ σ nc b v s d (σ.2.1 17 ab) V) (8 * na) zD r1) → ∀ (m c fu : Nat) (σ' : MS) (r : Int32), c + m = nc a → m < fu → Lk σ σ' → LastP (QQ σ nc b v s d (σ.2.1 17 ab) V) (8 * a + c) zD r → ∃ r1 σ1, M_quarrel_L86_r k74 fu σ' s d (nI (8 * ab + cb)) V r (nI a) (nI c) = (M_placed σ1 r1).bind (fun r7 => some (r7, σ1)) ∧ Lk σ σ1 ∧ LastP (QQ σ nc b v s d (σ.2.1 17 ab) V) (8 * na) zD r1 := by
    intro k74 a ha hk m
    obtain ⟨n8, n18⟩ := hnc a ha
    induction m with
    | zero =>
      intro c fu σ' r hc hf k hL
      obtain ⟨f, rfl, -⟩ := fuel hf
      have hc : c = nc a := by omega
      subst hc
      rw [M_quarrel_L86_r, k.2, rd_nI (by omega) (by decide), n18, if_pos (Int32.le_refl _), nI_1]
      refine hk σ' r k ?_
      have := hL.skipN (8 - nc a) fun e h1 h2 g => by
        have := g.1
        have e8 : e / 8 = a := by omega
        rw [e8] at this
        omega
      rw [show 8 * a + nc a + (8 - nc a) = 8 * (a + 1) by omega] at this
      exact this
    | succ m ih =>
      intro c fu σ' r hc hf k hL
      obtain ⟨f, rfl, hf2⟩ := fuel hf
      have d8 : (8 * a + c) / 8 = a := by omega
      have m8 : (8 * a + c) % 8 = c := by omega
      have nx := fun σ' r k h => ih (c + 1) f σ' r (by omega) (by omega) k h
      have skip : ∀ σ', Lk σ σ' → ¬ QQ σ nc b v s d (σ.2.1 17 ab) V (8 * a + c) → ∃ r1 σ1, M_quarrel_L86_r k74 f σ' s d (nI (8 * ab + cb)) V r (nI a) (nI (c + 1)) = (M_placed σ1 r1).bind (fun r7 => some (r7, σ1)) ∧ Lk σ σ1 ∧ LastP (QQ σ nc b v s d (σ.2.1 17 ab) V) (8 * na) zD r1 := fun σ' k h => nx σ' r k (hL.skip h)
      rw [M_quarrel_L86_r]
      unfold M_quarrel_J164 M_quarrel_J165 M_quarrel_J206
      rw [if_pos rfl, if_neg n10, isForce_eq k (by omega) (by omega), bind_so, k.2, rd_nI (by omega) (by decide), n18, if_neg (by rw [nI_leI (by omega) (by omega)]; omega), rd_nI (show a < 9 by omega) (by decide), eb8, rd_nI (show ab < 9 by omega) (by decide), nI_mul8, nI_add, rd_nI (by omega) (by decide), nI_1]
      by_cases c0 : σ.2.1 17 a = σ.2.1 17 ab
      case neg =>
        rw [if_neg c0]
        exact skip σ' k fun g => c0 (by have := g.2.2.1; rw [d8] at this; exact this)
      rw [if_pos c0]
      by_cases c1 : σ.2.1 20 (8 * a + c) = s
      case neg =>
        rw [if_neg c1]
        exact skip σ' k fun g => c1 g.2.1
      rw [if_pos c1]
      by_cases c2 : σ.2.1 17 a ≤ d ∧ d < σ.2.1 21 (8 * a + c)
      case neg =>
        rw [if_neg c2, if_pos rfl]
        exact skip σ' k fun g => c2 ⟨by rw [c0]; exact hD, g.2.2.2.1⟩
      rw [if_pos c2, if_neg n10]
      by_cases c3 : nI (8 * a + c) = nI (8 * ab + cb)
      · rw [if_pos c3]
        have e := (nI_eq (by omega) (by omega)).mp c3
        have ea : a = ab := by omega
        have ec : c = cb := by omega
        exact skip σ' k fun g => g.2.2.2.2.2 (by rw [d8, m8, ea, ec]; exact hV)
      rw [if_neg c3]
      obtain ⟨hb1, hb2, hb3⟩ := hb a c ha (by omega)
      obtain ⟨σ1, q1, q2⟩ := hb2 σ' k
      rw [q1, bind_pq]
      rcases hb1 with g | g
      · rw [if_pos g]
        exact skip σ1 (k.trans q2) fun h => by have := h.2.2.2.2.1; rw [d8, m8, g] at this; exact absurd this (by decide)
      rw [if_neg (by rw [g]; decide)]
      obtain ⟨σ2, z1, z2⟩ := hb3 σ1 (k.trans q2)
      rw [z1, bind_pq]
      by_cases c4 : v a c = V
      · rw [if_pos c4]
        exact skip σ2 ((k.trans q2).trans z2) fun h => h.2.2.2.2.2 (by rw [d8, m8]; exact c4)
      · rw [if_neg c4]
        exact nx σ2 _ ((k.trans q2).trans z2) (hL.top ⟨by rw [d8, m8]; omega, c1, by rw [d8]; exact c0, c2.2, by rw [d8, m8]; exact g, by rw [d8, m8]; exact c4⟩ (by omega))
  have outer : ∀ (m a fu : Nat) (σ' : MS) (r : Int32), a + m = na → m < fu → Lk σ σ' → LastP (QQ σ nc b v s d (σ.2.1 17 ab) V) (8 * a) zD r → ∃ r1 σ1, M_quarrel_L74_r fu σ' s d (nI (8 * ab + cb)) V r (nI a) = (M_placed σ1 r1).bind (fun r7 => some (r7, σ1)) ∧ Lk σ σ1 ∧ LastP (QQ σ nc b v s d (σ.2.1 17 ab) V) (8 * na) zD r1 := by
    intro m
    induction m with
    | zero =>
      intro a fu σ' r ha hf k hL
      obtain ⟨f, rfl, -⟩ := fuel hf
      have ha : a = na := by omega
      subst ha
      rw [M_quarrel_L74_r, k.1 16 (by decide) (by decide) (by decide), h16, if_pos (Int32.le_refl _)]
      exact ⟨_, _, rfl, k, hL⟩
    | succ m ih =>
      intro a fu σ' r ha hf k hL
      obtain ⟨f, rfl, hf2⟩ := fuel hf
      rw [M_quarrel_L74_r, k.1 16 (by decide) (by decide) (by decide), h16, if_neg (by rw [nI_leI (by omega) (by omega)]; omega)]
      exact inner (M_quarrel_L74_r f) a (by omega) (fun σ2 r2 k2 h2 => ih (a + 1) f σ2 r2 (by omega) (by omega) k2 h2) (nc a) 0 100000 σ' r (by omega) (by have := (hnc a (by omega)).1; omega) k hL
  intro σ' k
  exact outer na 0 100000 σ' (-1) (by omega) (by omega) k LastP.zero
theorem Lw_other_spec {σ : MS} {τ : XS} {na : Nat} {h : Nat → Nat} {od : List Nat} (g : ActsR σ τ na h od) (nc : Nat → Nat) (hnc : ∀ a, a < na → nc a ≤ 8 ∧ tF τ (h a) 2 = nI (nc a)) (hcl : ∀ a c, a < na → c < nc a → tA τ (h a) 3 c = σ.2.1 20 (8 * a + c) ∧ tA τ (h a) 7 c = σ.2.1 21 (8 * a + c)) (b v : Nat → Nat → Int32)
    (hb : ∀ a c, a < na → c < nc a → (b a c = 0 ∨ b a c = 1) ∧ (∀ τ', Lr τ τ' → ∃ r τ1, Lw_reckon τ' (h a) (tA τ (h a) 5 c) (tA τ (h a) 6 c) = some (r, τ1) ∧ Lx τ' τ1 ∧ (r = 0 ↔ b a c = 0)))
    (hv : ∀ a c, a < na → c < nc a → ∀ τ', Lr τ τ' → ∃ r τ1, Lw_reckon τ' (h a) (tA τ (h a) 4 c) (tA τ (h a) 5 c) = some (r, τ1) ∧ Lx τ' τ1 ∧ Lw_bounded τ1 r = some (v a c)) (s d D V : Int32) {τr : XS} (xr : Lr τ τr) (e307 : 0 ≤ τr.1 307) (e308 : τr.1 308 = V) (e309 : τr.1 309 = D) :
    ∃ r w τ1, Lw_otherClause τr s d = some (w, τ1) ∧ Lr τ τ1 ∧ LastP (QQ σ nc b v s d D V) (8 * na) zD r ∧ ((r = -1 ∧ w = -5) ∨ ∃ a c, r = nI (8 * a + c) ∧ a < na ∧ c < nc a ∧ w = nI (100 * a + c)) := by
  obtain ⟨g1, g2, g3, g4, g5, g6, g7, g8, g9⟩ := g
  have oAe : ∀ {β : Type} {t : XS} {a : Nat} {k : Nat → Option β}, a < na → t.2.2 = τ.2.2 → oA (nA t) (some (h a)) k = k (h a) := fun {β t a k} ha e => oA_some (by unfold nA; rw [e]; exact (g3 a ha).2)
  have tAe : ∀ (t : XS) (a j : Nat), t.2.2 = τ.2.2 → tA t a j = tA τ a j := fun t a j e => by unfold tA; rw [e]
  have tFe : ∀ (t : XS) (a j : Nat), t.2.2 = τ.2.2 → tF t a j = tF τ a j := fun t a j e => by unfold tF; rw [e]
  have lr : ∀ t, Lx τr t → Lr τ t := fun t x => ⟨fun j a b c => by rw [x.1]; exact xr.1 j a b c, fun j a => (x.2.1 j a).trans (xr.2.1 j a), x.2.2.trans xr.2.2⟩
  have found : ∀ (pre suf : List Nat) (a c : Nat), od = pre ++ a :: suf → (∀ a', a' ∈ suf → ∀ c', c' < 8 → ¬ QQ σ nc b v s d D V (8 * a' + c')) → (∀ c', c < c' → c' < 8 → ¬ QQ σ nc b v s d D V (8 * a + c')) → c < 8 → QQ σ nc b v s d D V (8 * a + c) → LastP (QQ σ nc b v s d D V) (8 * na) zD (nI (8 * a + c)) := by
    intro pre suf a c ho h1 h2 hc hq
    have ha : a < na := (g8 a).mp (by rw [ho]; simp)
    refine Or.inr ⟨8 * a + c, by omega, rfl, hq, fun j hj hqj => Or.inr ⟨rfl, ?_⟩⟩
    have hj8 : j = 8 * (j / 8) + j % 8 := by omega
    have hm : j / 8 ∈ od := (g8 _).mpr (by omega)
    rw [ho] at hm
    rcases List.mem_append.mp hm with q | q
    · have : ltD (σ.2.1 17) (j / 8) a := by
        rw [ho, List.pairwise_append] at g7
        exact g7.2.2 _ q a (by simp)
      have e1 := hq.2.2.1
      rw [show (8 * a + c) / 8 = a by omega] at e1
      have e2 := hqj.2.2.1
      rcases this with q | ⟨q1, q2⟩
      · rw [e1, e2, i32_lt] at q
        omega
      · omega
    · rcases List.mem_cons.mp q with q | q
      · apply Classical.byContradiction
        intro q3
        exact h2 (j % 8) (by omega) (by omega) (by rw [q] at hj8; rw [← hj8]; exact hqj)
      · exact absurd hqj (by rw [hj8]; exact h1 _ q _ (by omega))
  have inner : ∀ (k17 : XS → Int32 → Int32 → Int32 → Option (Int32 × XS)) (pre suf : List Nat) (a : Nat), od = pre ++ a :: suf → (∀ a', a' ∈ suf → ∀ c', c' < 8 → ¬ QQ σ nc b v s d D V (8 * a' + c')) → σ.2.1 17 a = D → ((∀ c', c' < 8 → ¬ QQ σ nc b v s d D V (8 * a + c')) → ∀ τ', Lx τr τ' → ∃ r w τ1, k17 τ' s d (nI pre.length - 1) = some (w, τ1) ∧ Lr τ τ1 ∧ LastP (QQ σ nc b v s d D V) (8 * na) zD r ∧ ((r = -1 ∧ w = -5) ∨ ∃ a c, r = nI (8 * a + c) ∧ a < na ∧ c < nc a ∧ w = nI (100 * a + c))) → ∀ (n fu : Nat) (τ' : XS), n ≤ nc a → n < fu → Lx τr τ' → (∀ c', n ≤ c' → c' < 8 → ¬ QQ σ nc b v s d D V (8 * a + c')) → ∃ r w τ1, Lw_otherClause_L63_r k17 fu τ' s d (nI pre.length) (some (h a)) (nI n - 1) = some (w, τ1) ∧ Lr τ τ1 ∧ LastP (QQ σ nc b v s d D V) (8 * na) zD r ∧ ((r = -1 ∧ w = -5) ∨ ∃ a c, r = nI (8 * a + c) ∧ a < na ∧ c < nc a ∧ w = nI (100 * a + c)) := by
    intro k17 pre suf a ho h1 hday hk n
    have ha : a < na := (g8 a).mp (by rw [ho]; simp)
    have hl : pre.length < od.length := by rw [ho, List.length_append, List.length_cons]; omega
    obtain ⟨n8, -⟩ := hnc a ha
    induction n with
    | zero =>
      intro fu τ' hn hf x hq
      obtain ⟨f, rfl, -⟩ := fuel hf
      rw [Lw_otherClause_L63_r, if_pos (by decide)]
      unfold Lw_otherClause_J184
      rw [← Int32.sub_eq_add_neg]
      exact hk (fun c' hc' => hq c' (Nat.zero_le _) hc') τ' x
    | succ c ih =>
      intro fu τ' hn hf x hq
      obtain ⟨f, rfl, hf2⟩ := fuel hf
      have e1 : nI (c + 1) - 1 = nI c := by rw [← nI_1, Int32.add_sub_cancel]
      obtain ⟨t3, t7⟩ := hcl a c ha (by omega)
      obtain ⟨hb1, hb2⟩ := hb a c ha (by omega)
      have d8 : (8 * a + c) / 8 = a := by omega
      have m8 : (8 * a + c) % 8 = c := by omega
      have e22 : ∀ t, Lx τr t → t.2.2 = τ.2.2 := fun t x => x.2.2.trans xr.2.2
      have nx : ∀ τ', Lx τr τ' → ¬ QQ σ nc b v s d D V (8 * a + c) → _ := fun τ' x hn' => ih f τ' (by omega) (by omega) x fun c' h1' h2' => by
        rcases Nat.eq_or_lt_of_le h1' with q | q
        · rw [← q]; exact hn'
        · exact hq c' q h2'
      rw [Lw_otherClause_L63_r, e1, if_neg (nI_not_lt0 (by omega))]
      unfold Lw_otherClause_J178
      simp only [oAe ha (e22 τ' x), tAe τ' _ _ (e22 τ' x), rd_nI (show c < 8 by omega) (show 8 < 2 ^ 31 by decide), t3, t7, ← Int32.sub_eq_add_neg]
      by_cases c1 : σ.2.1 20 (8 * a + c) = s
      case neg =>
        rw [if_neg c1]
        exact nx τ' x fun q => c1 q.2.1
      rw [if_pos c1]
      by_cases c2 : d < σ.2.1 21 (8 * a + c)
      case neg =>
        rw [if_neg c2]
        exact nx τ' x fun q => c2 q.2.2.2.1
      rw [if_pos c2]
      obtain ⟨r7, τ2, q1, q2, q3⟩ := hb2 τ' (lr τ' x)
      rw [q1, bind_pq]
      have x2 : Lx τr τ2 := x.trans q2
      by_cases c3 : r7 = 0
      · rw [if_pos c3]
        exact nx τ2 x2 fun q => by have := q.2.2.2.2.1; rw [d8, m8, q3.mp c3] at this; exact absurd this (by decide)
      rw [if_neg c3]
      have hb' : b a c = 1 := hb1.resolve_left fun q => c3 (q3.mpr q)
      simp only [oAe ha (e22 τ2 x2), tAe τ2 _ _ (e22 τ2 x2), rd_nI (show c < 8 by omega) (show 8 < 2 ^ 31 by decide)]
      obtain ⟨r4, τ4, u1, u2, u3⟩ := hv a c ha (by omega) τ2 (lr τ2 x2)
      have x4 : Lx τr τ4 := x2.trans u2
      rw [u1, bind_pq, u3, bind_so, x4.1, e308]
      by_cases c4 : v a c = V
      · rw [if_pos c4]
        exact nx τ4 x4 fun q => q.2.2.2.2.2 (by rw [d8, m8]; exact c4)
      rw [if_neg c4]
      have od1 : τ4.2.1 303 pre.length = nI a := by
        rw [x4.2.1 303 (by decide), xr.2.1 303 (by decide), g5 _ hl]
        congr 1
        simp [ho]
      have hi : (100 : Int32) * nI a + nI c = nI (100 * a + c) := by rw [show (100 : Int32) = nI 100 from rfl, nI_mul, nI_add]
      rw [rd_nI (by omega) (by decide), od1, hi]
      exact ⟨nI (8 * a + c), _, _, rfl, lr τ4 x4, found pre suf a c ho h1 (fun c' k1 k2 => hq c' k1 k2) (by omega) ⟨by rw [d8, m8]; omega, c1, by rw [d8]; exact hday, c2, by rw [d8, m8]; exact hb', by rw [d8, m8]; exact c4⟩, Or.inr ⟨a, c, rfl, ha, by omega, rfl⟩⟩
  have outer : ∀ (m fu : Nat) (pre suf : List Nat) (τ' : XS), pre.length = m → m < fu → od = pre ++ suf → Lx τr τ' → (∀ a', a' ∈ suf → ∀ c', c' < 8 → ¬ QQ σ nc b v s d D V (8 * a' + c')) → ∃ r w τ1, Lw_otherClause_L17_r fu τ' s d (nI m - 1) = some (w, τ1) ∧ Lr τ τ1 ∧ LastP (QQ σ nc b v s d D V) (8 * na) zD r ∧ ((r = -1 ∧ w = -5) ∨ ∃ a c, r = nI (8 * a + c) ∧ a < na ∧ c < nc a ∧ w = nI (100 * a + c)) := by
    intro m
    induction m with
    | zero =>
      intro fu pre suf τ' hm hf ho x hq
      obtain ⟨f, rfl, -⟩ := fuel hf
      have hp : pre = [] := List.length_eq_zero_iff.mp hm
      rw [Lw_otherClause_L17_r, if_pos (by decide)]
      refine ⟨-1, _, _, rfl, lr τ' x, Or.inl ⟨rfl, fun j hj hqj => ?_⟩, Or.inl ⟨rfl, rfl⟩⟩
      have hmem : j / 8 ∈ suf := by
        have := (g8 (j / 8)).mpr (by omega)
        rw [ho, hp] at this
        exact this
      exact hq _ hmem (j % 8) (by omega) (by rw [show 8 * (j / 8) + j % 8 = j by omega]; exact hqj)
    | succ m ih =>
      intro fu pre suf τ' hm hf ho x hq
      obtain ⟨f, rfl, hf2⟩ := fuel hf
      obtain ⟨p0, a, hp, hp0⟩ := snoc_of pre hm
      have ho' : od = p0 ++ a :: suf := by rw [ho, hp]; simp
      have ha : a < na := (g8 a).mp (by rw [ho']; simp)
      have hl : m < od.length := by rw [ho', List.length_append, List.length_cons]; omega
      have e1 : nI (m + 1) - 1 = nI m := by rw [← nI_1, Int32.add_sub_cancel]
      have e22 : τ'.2.2 = τ.2.2 := x.2.2.trans xr.2.2
      have od1 : τ.2.1 303 m = nI a := by
        rw [g5 _ hl]
        congr 1
        subst hp0
        simp [ho']
      have down : (∀ c', c' < 8 → ¬ QQ σ nc b v s d D V (8 * a + c')) → ∀ τ', Lx τr τ' → _ := fun hno τ' x => ih f p0 (a :: suf) τ' hp0 (by omega) ho' x fun a' ha' => by
        rcases List.mem_cons.mp ha' with q | q
        · rw [q]; exact hno
        · exact hq a' q
      rw [Lw_otherClause_L17_r, e1, if_neg (nI_not_lt0 (by omega)), x.2.1 303 (by decide), xr.2.1 303 (by decide), rd_nI (by omega) (by decide), od1, rd_nI (by omega) (by decide), e22, (g3 a ha).1]
      rw [oN_some, oAe ha e22, tFe τ' _ _ e22, (g9 a ha).1, x.1, e309]
      by_cases c1 : σ.2.1 17 a = D
      case neg =>
        rw [if_neg c1]
        unfold Lw_otherClause_J184
        rw [← Int32.sub_eq_add_neg]
        exact down (fun c' hc' q => c1 (by have := q.2.2.1; rw [show (8 * a + c') / 8 = a by omega] at this; exact this)) τ' x
      rw [if_pos c1, oAe ha e22, tFe τ' _ _ e22, (hnc a ha).2]
      unfold Lw_otherClause_L63
      have := inner (Lw_otherClause_L17_r f) p0 suf a ho' hq c1 (fun hno τ' x => by rw [hp0]; exact down hno τ' x) (nc a) 100000 τ' (Nat.le_refl _) (by have := (hnc a ha).1; omega) x (fun c' k1 k2 q => by
        have := q.1
        rw [show (8 * a + c') / 8 = a by omega, show (8 * a + c') % 8 = c' by omega] at this
        omega)
      rw [hp0] at this
      exact this
  have := outer od.length 100000 od [] τr rfl (by omega) (by rw [List.append_nil]) Lx.rfl (fun a' ha' => absurd ha' (by simp))
  rw [g4] at this
  unfold Lw_otherClause Lw_otherClause_L17
  rw [if_pos e307, xr.1 302 (by decide) (by decide) (by decide), g2]
  exact this
theorem placed_eq (σ : MS) {a c : Nat} (ha : a < 9) (hc : c < 8) : M_placed σ (nI (8 * a + c)) = some (nI (100 * a + c)) := by
  unfold M_placed
  rw [if_neg (nI_ne_m1 (by omega)), (split8 ha hc).2, (split8 ha hc).1, show (100 : Int32) = nI 100 from rfl, nI_mul, nI_add]
theorem st20 : St20 (InvA ActI) := by
  intro σ τ xs i h
  have same : InvA ActI σ τ := h
  obtain ⟨np, ne, bl, hP, hB, hM, ha⟩ := h
  generalize xs (i + 1) = p0
  generalize xs (i + 2) = p1
  generalize xs (i + 3) = p2
  generalize xs (i + 4) = p3
  unfold W_quarrel M_quarrel
  rw [M_isDay_eq]
  simp only [bind_so, b01_if]
  rcases ask_cases hP hB p0 p1 p2 p3 with ⟨m, x⟩ | ⟨m, c, x⟩ | ⟨m, c, c3, hp, x⟩
  · rw [m, x, bind_pq, bind_so, if_pos rfl, if_neg (by decide)]
    exact ⟨_, _, _, rfl, rfl, same⟩
  · rw [m, x, bind_pq, bind_so, if_neg n10, if_neg c, if_neg (by decide)]
    exact ⟨_, _, _, rfl, rfl, same⟩
  obtain ⟨K, sr, dd, d', a', t', l', hK, hk', q1, q2, q3, vw, P', B', M', A'⟩ := InvA.view ActI_stb hP hB hM ha c3
  have hd' : -1 ≤ p2.toInt ∧ p2.toInt ≤ 10000 := by
    have h1 := dayOk_of c
    unfold DayOk at h1
    omega
  obtain ⟨f, g, n1, n2, n3⟩ := names_eq vw P' B' hK hp hd'
  have same0 : InvA ActI (lookM σ K sr dd) (lookX τ d' a' t' l') := ⟨np, ne, bl, P', B', M', A'⟩
  obtain ⟨na, h, od, a1, a2, a3, -⟩ := A'
  have h50 : (lookM σ K sr dd).1 50 = 0 := M'.2.2.2.2.2.2.2.2.2.2.2.2.2.2.2.2.2.2
  have AR := a3.eqR (σ' := σ) (τ' := τ) f g
  obtain ⟨nc, b, v, hnc, hbv⟩ := acts_vals AR (fun k hk => by rw [sA_get, xA_get]; exact n3 k hk)
  obtain ⟨r, σ1, m1, m2, m3⟩ := M_governs_spec (σ := sA (lookM σ K sr dd) 49 f) AR.1 (show (lookM σ K sr dd).1 16 + (lookM σ K sr dd).1 50 = nI na by rw [a2, h50]; exact Int32.add_zero _) nc (fun a ha => ⟨(hnc a ha).1, (hnc a ha).2.1⟩) b (fun a c ha hc => ⟨(hbv a c ha hc).1, (hbv a c ha hc).2.1⟩) p0 p2
  obtain ⟨r', w, τ1, x1, x2, x3, x4⟩ := Lw_ruling_spec AR nc (fun a ha => ⟨(hnc a ha).1, (hnc a ha).2.2.1⟩) (fun a c ha hc => (hnc a ha).2.2.2 c hc) b v (fun a c ha hc => ⟨(hbv a c ha hc).1, fun τ' x => (hbv a c ha hc).2.2.2.1 τ' x.lr⟩) (fun a c ha hc => (hbv a c ha hc).2.2.2.2) p0 p2
  have er : r' = r := x3.uniq m3
  subst er
  have sM : ∀ σ2, Lk (sA (lookM σ K sr dd) 49 f) σ2 → SameM (lookM σ K sr dd) σ2 := fun σ2 k => SameM.trans (b := sA (lookM σ K sr dd) 49 f) ⟨fun _ _ _ _ _ => rfl, fun j _ _ h3 => sA_ne h3, rfl⟩ k.same
  have sX : ∀ τ2, Lr (xA (lookX τ d' a' t' l') 305 g) τ2 → SameX (lookX τ d' a' t' l') τ2 := fun τ2 k => SameX.trans (b := xA (lookX τ d' a' t' l') 305 g) ⟨fun _ _ _ _ => rfl, fun j _ h2 _ _ _ _ _ => xA_ne h2, rfl⟩ k.rx.same
  rw [m, x, q2, bind_pq, n2, bind_pq, bind_pq, if_pos (by decide), x1, bind_pq, bind_so, if_neg n10, if_pos c, q1, bind_pq, n1, bind_pq, m1, bind_pq]
  rcases x4 with ⟨y1, y2, y3⟩ | ⟨a, cc, y1, ya, yc, y2, y3, y4, y5⟩
  · rw [if_pos y1]
    unfold Lw_otherClause
    rw [y3, if_neg (by decide)]
    exact ⟨_, _, _, rfl, rfl, same0.same ActI_stb (sM σ1 m2) (sX τ1 x2)⟩
  have n8 := (hnc a ya).1
  have na9 := AR.1
  rw [if_neg (by rw [y1]; exact nI_ne_m1 (by omega)), y1, (split8 (by omega) (by omega)).2, (split8 (by omega) (by omega)).1]
  obtain ⟨σ2, z1, z2⟩ := (hbv a cc ya yc).2.2.1 σ1 m2
  rw [z1, bind_pq]
  have hD : (sA (lookM σ K sr dd) 49 f).2.1 17 a ≤ p2 := by
    rcases m3 with ⟨e, -⟩ | ⟨e, he, ee, hq, -⟩
    · rw [y1] at e; exact absurd e (nI_ne_m1 (by omega))
    · rw [y1] at ee
      have := (nI_eq (by omega) (by omega)).mp ee
      have h3 := hq.2.2.1
      rw [← this, show (8 * a + cc) / 8 = a by omega] at h3
      exact h3
  obtain ⟨r2, σ3, k1, k2, k3⟩ := M_quarrel_spec (σ := sA (lookM σ K sr dd) 49 f) AR.1 (show (lookM σ K sr dd).1 16 = nI na from a2) nc (fun a ha => ⟨(hnc a ha).1, (hnc a ha).2.1⟩) b v (fun a c ha hc => ⟨(hbv a c ha hc).1, (hbv a c ha hc).2.1, (hbv a c ha hc).2.2.1⟩) p0 p2 (v a cc) ya yc rfl hD σ2 (m2.trans z2)
  obtain ⟨r3, w3, τ3, k4, k5, k6, k7⟩ := Lw_other_spec AR nc (fun a ha => ⟨(hnc a ha).1, (hnc a ha).2.2.1⟩) (fun a c ha hc => (hnc a ha).2.2.2 c hc) b v (fun a c ha hc => ⟨(hbv a c ha hc).1, (hbv a c ha hc).2.2.2.1⟩) (fun a c ha hc => (hbv a c ha hc).2.2.2.2) p0 p2 _ (v a cc) x2 (by rw [y3]; exact nI_le0 (by omega)) y5 y4
  have e23 : r3 = r2 := k6.uniq k3
  subst e23
  rw [k1, k4, bind_pq]
  have inv := same0.same ActI_stb (sM σ3 k2) (sX τ3 k5)
  rcases k7 with ⟨u1, u2⟩ | ⟨a5, c5, u1, u2, u3, u4⟩
  · have pl : M_placed σ3 r3 = some (-5) := by
      unfold M_placed
      rw [if_pos u1]
    rw [pl, u2, bind_so]
    exact ⟨_, _, _, rfl, rfl, inv⟩
  · have n85 := (hnc a5 u2).1
    rw [u1, placed_eq σ3 (by omega) (by omega), u4, bind_so]
    exact ⟨_, _, _, rfl, rfl, inv⟩
