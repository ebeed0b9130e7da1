/-! the chest -/
theorem oI (a : Int64) : ∃ x : Int, a = Int64.ofInt x := ⟨a.toInt, (Int64.ofInt_toInt a).symm⟩
theorem j1 (a b c d : Int64) : ((a - b) + c) - d = (a + c) - (b + d) := by
  obtain ⟨a, rfl⟩ := oI a
  obtain ⟨b, rfl⟩ := oI b
  obtain ⟨c, rfl⟩ := oI c
  obtain ⟨d, rfl⟩ := oI d
  rw [← Int64.ofInt_sub, ← Int64.ofInt_add, ← Int64.ofInt_sub, ← Int64.ofInt_add, ← Int64.ofInt_add, ← Int64.ofInt_sub]
  congr 1
  omega
theorem j2 (a b c : Int64) : (a - b) - c = a - (b + c) := by
  obtain ⟨a, rfl⟩ := oI a
  obtain ⟨b, rfl⟩ := oI b
  obtain ⟨c, rfl⟩ := oI c
  rw [← Int64.ofInt_sub, ← Int64.ofInt_sub, ← Int64.ofInt_add, ← Int64.ofInt_sub]
  congr 1
  omega
theorem j3 (a b c d : Int64) : (a + b) + (c + d) = (a + c) + (b + d) := by
  obtain ⟨a, rfl⟩ := oI a
  obtain ⟨b, rfl⟩ := oI b
  obtain ⟨c, rfl⟩ := oI c
  obtain ⟨d, rfl⟩ := oI d
  rw [← Int64.ofInt_add, ← Int64.ofInt_add, ← Int64.ofInt_add, ← Int64.ofInt_add, ← Int64.ofInt_add, ← Int64.ofInt_add]
  congr 1
  omega
theorem sC_add {A B : Nat → Int64} : ∀ n, sC A n + sC B n = sC (fun m => A m + B m) n := by
  intro n
  induction n with
  | zero => rfl
  | succ n ih => rw [sC, sC, sC, ← ih, j3]
def sI' (f : Nat → Int) : Nat → Int
  | 0 => 0
  | n + 1 => sI' f n + f n
/-- coins over the entries with S -/
noncomputable def sF (c : Nat → Int) (S : Nat → Prop) (K : Nat) : Int := sumL c (fl S K)
theorem sF_pos {c : Nat → Int} {S : Nat → Prop} {K : Nat} (h : S K) : sF c S (K + 1) = sF c S K + c K := by unfold sF; rw [fl_pos h, sumL_app, sumL_one]
theorem sF_neg {c : Nat → Int} {S : Nat → Prop} {K : Nat} (h : ¬ S K) : sF c S (K + 1) = sF c S K := by unfold sF; rw [fl_neg h]
theorem sF_congr {c : Nat → Int} {S T : Nat → Prop} {K : Nat} (h : ∀ i, i < K → (S i ↔ T i)) : sF c S K = sF c T K := by unfold sF; rw [fl_congr h]
theorem sF_or {c : Nat → Int} {S T : Nat → Prop} : ∀ K, (∀ i, i < K → ¬ (S i ∧ T i)) → sF c (fun i => S i ∨ T i) K = sF c S K + sF c T K := by
  intro K
  induction K with
  | zero => intro _; rfl
  | succ K ih =>
    intro h
    have e := ih fun i hi => h i (by omega)
    by_cases c1 : S K
    · have c2 : ¬ T K := fun g => h K (by omega) ⟨c1, g⟩
      rw [sF_pos (S := fun i => S i ∨ T i) (Or.inl c1), sF_pos c1, sF_neg c2, e]; omega
    · by_cases c2 : T K
      · rw [sF_pos (S := fun i => S i ∨ T i) (Or.inr c2), sF_neg c1, sF_pos c2, e]; omega
      · rw [sF_neg (S := fun i => S i ∨ T i) (fun g => g.elim c1 c2), sF_neg c1, sF_neg c2, e]
/-- a sum over parts that don't meet -/
theorem sF_parts {c : Nat → Int} {S : Nat → Nat → Prop} {K : Nat} : ∀ n, (∀ i, i < K → ∀ j k, S j i → S k i → j = k) → sI' (fun j => sF c (S j) K) n = sF c (fun i => ∃ j, j < n ∧ S j i) K := by
  intro n
  induction n with
  | zero =>
    intro _
    have : sF c (fun i => ∃ j, j < 0 ∧ S j i) K = 0 := by
      unfold sF
      have : fl (fun i => ∃ j, j < 0 ∧ S j i) K = [] := by
        rw [List.eq_nil_iff_forall_not_mem]
        intro x hx
        obtain ⟨-, j, hj, -⟩ := fl_mem.mp hx
        exact absurd hj (Nat.not_lt_zero _)
      rw [this, sumL_nil]
    rw [this]
    rfl
  | succ n ih =>
    intro h
    rw [sI', ih h, ← sF_or K fun i hi g => by
      obtain ⟨⟨j, hj, g1⟩, g2⟩ := g
      have := h i hi j n g1 g2
      omega]
    refine sF_congr fun i _ => ⟨?_, ?_⟩
    · rintro (⟨j, hj, g⟩ | g)
      · exact ⟨j, by omega, g⟩
      · exact ⟨n, by omega, g⟩
    · rintro ⟨j, hj, g⟩
      rcases Nat.lt_or_eq_of_le (Nat.le_of_lt_succ hj) with q | rfl
      · exact Or.inl ⟨j, q, g⟩
      · exact Or.inr g
section CHEST
variable {σ σ' : MS} {τ τ' : XS} {K np ne na : Nat} {bl od : List Nat} {hh : Nat → Nat}
def lcv (σ : MS) (y : Int32) (l : Nat) : Int64 := (M_comesOf σ (nI l) y).getD 0
theorem M_comesOf_rm (hm : Rm σ σ') : M_comesOf σ' = M_comesOf σ := by
  funext l y
  unfold M_comesOf M_comesOf_J84
  rw [hm.2.1 28 (by decide), hm.2.1 29 (by decide), hm.2.1 30 (by decide), hm.2.1 31 (by decide), hm.2.1 32 (by decide)]
theorem Ln_comesOf_rx (hx : Rx τ τ') : Ln_comesOf τ' = Ln_comesOf τ := by
  funext l y
  unfold Ln_comesOf
  rw [hx.2.1 501 (by decide) (by decide), hx.2.1 502 (by decide) (by decide), hx.2.1 503 (by decide) (by decide), hx.2.1 504 (by decide) (by decide), hx.2.1 505 (by decide) (by decide)]
theorem CB.loans (h : CB σ τ np ne bl na hh od) {Y : Nat} (hY : Y < 100) : ∃ nl, nl ≤ 12 ∧ σ.1 27 = nI nl ∧ τ.1 500 = nI nl ∧ ∀ l, l < nl → M_comesOf σ (nI l) (nI Y) = some (lcv σ (nI Y) l) ∧ Ln_comesOf τ (nI l) (nI Y) = some (lcv σ (nI Y) l) := by
  have hM := h.2.2.1
  obtain ⟨nl, l1, l2, l3, -⟩ := hM.2.2.2.2.1
  refine ⟨nl, l1, l2, l3, fun l hl => ?_⟩
  obtain ⟨v, v1, v2⟩ := comes_eq hM l2 hl l1 (y := nI Y) ⟨nI_le0 (by omega), by rw [show (99 : Int32) = nI 99 from rfl, nI_leI (by omega) (by omega)]; omega⟩
  have v1' : M_comesOf σ (nI l) (nI Y) = some v := v1
  have v2' : Ln_comesOf τ (nI l) (nI Y) = some v := v2
  unfold lcv
  rw [v1', v2']
  exact ⟨rfl, rfl⟩
/-- what women get -/
noncomputable def rW (σ : MS) (Y p : Nat) : Int64 := if σ.2.1 2 p = 1 then Int64.ofInt (sR (rD σ p) (100 * Y) 100) / 100 else 0
theorem CK.brings (h : CK σ τ K np ne bl na hh od) {Y : Nat} (hY : Y < 100) : ∃ v, QM σ (fun s => M_brings s (nI Y)) v ∧ QX τ (fun t => Cn_apartFromMembers t (nI Y)) v := by
  have h24 : np ≤ 24 := h.1.1.1.1
  obtain ⟨vv, a1, a2⟩ := h.1.vacant hY
  obtain ⟨nl, l1, l2, l3, l4⟩ := h.1.1.loans hY
  refine ⟨((vv - sC (cAll σ np (nI Y)) np) + sC (lcv σ (nI Y)) nl) - sC (rW σ Y) np, fun σ' hm => ?_, fun τ' hx => ?_⟩
  · have per : ∀ (n i fu : Nat) (σ' : MS) (B : Int64), i + n = np → n < fu → Rm σ σ' → ∃ σ1, M_brings_L44_r fu σ' (nI Y) (B - sC (rW σ Y) i) (nI i) = some (B - sC (rW σ Y) np, σ1) ∧ Rm σ σ1 := by
      intro n
      induction n with
      | zero =>
        intro i fu σ' B hi hf hm
        obtain ⟨f, rfl, -⟩ := fuel hf
        have hi : i = np := by omega
        subst hi
        exact ⟨σ', by rw [M_brings_L44_r, hm.1 1 (by decide) (by decide) (by decide), h.1.1.1.2.1, if_pos (Int32.le_refl _)], hm⟩
      | succ n ih =>
        intro i fu σ' B hi hf hm
        obtain ⟨f, rfl, hf2⟩ := fuel hf
        have nx := fun σ' hm => ih (i + 1) f σ' B (by omega) (by omega) hm
        rw [M_brings_L44_r, hm.1 1 (by decide) (by decide) (by decide), h.1.1.1.2.1, if_neg (nI_ge (by omega) (by omega)), rd_nI (by omega) (by decide), hm.2.1 2 (by decide)]
        unfold M_brings_J76
        rw [nI_1]
        by_cases c : σ.2.1 2 i = 1
        · rw [if_pos c]
          obtain ⟨σ1, q1, q2⟩ := (h.rentOf (p := i) (by omega) hY).1 σ' hm
          have q1' : M_rentOf σ' (nI i) (nI Y) = some (Int64.ofInt (sR (rD σ i) (100 * Y) 100) / 100, σ1) := q1
          rw [q1', bind_pq]
          have := nx σ1 q2
          rw [sC, show rW σ Y i = Int64.ofInt (sR (rD σ i) (100 * Y) 100) / 100 from if_pos c, ← j2] at this
          exact this
        · rw [if_neg c]
          have := nx σ' hm
          rw [sC, show rW σ Y i = 0 from if_neg c, ← j2] at this
          exact this
    have loa : ∀ (n i fu : Nat) (σ' : MS) (B : Int64), i + n = nl → n < fu → Rm σ σ' → ∃ σ1, M_brings_L16_r fu σ' (nI Y) (B + sC (lcv σ (nI Y)) i) (nI i) = some ((B + sC (lcv σ (nI Y)) nl) - sC (rW σ Y) np, σ1) ∧ Rm σ σ1 := by
      intro n
      induction n with
      | zero =>
        intro i fu σ' B hi hf hm
        obtain ⟨f, rfl, -⟩ := fuel hf
        have hi : i = nl := by omega
        subst hi
        rw [M_brings_L16_r, hm.1 27 (by decide) (by decide) (by decide), l2, if_pos (Int32.le_refl _)]
        obtain ⟨σ1, k1, k2⟩ := per np 0 100000 σ' (B + sC (lcv σ (nI Y)) i) (by omega) (by omega) hm
        rw [sC, show (B + sC (lcv σ (nI Y)) i) - 0 = B + sC (lcv σ (nI Y)) i from Int64.sub_zero _] at k1
        exact ⟨σ1, k1, k2⟩
      | succ n ih =>
        intro i fu σ' B hi hf hm
        obtain ⟨f, rfl, hf2⟩ := fuel hf
        have nx := ih (i + 1) f σ' B (by omega) (by omega) hm
        rw [M_brings_L16_r, hm.1 27 (by decide) (by decide) (by decide), l2, if_neg (nI_ge (by omega) (by omega)), M_comesOf_rm hm, (l4 i (by omega)).1, bind_so, nI_1]
        rw [sC, ← Int64.add_assoc] at nx
        exact nx
    obtain ⟨σ1, q1, q2⟩ := a1 σ' hm
    have q1' : M_vacantOf σ' (nI Y) = some (vv, σ1) := q1
    obtain ⟨σ2, z1, z2⟩ := h.sumAll (nI Y) σ1 q2
    have z1' : M_sumOf σ1 (-1) (nI Y) = some (sC (cAll σ np (nI Y)) np, σ2) := z1
    obtain ⟨σ3, k1, k2⟩ := loa nl 0 100000 σ2 (vv - sC (cAll σ np (nI Y)) np) (by omega) (by omega) z2
    rw [sC, Int64.add_zero] at k1
    refine ⟨σ3, ?_, k2⟩
    show M_brings σ' (nI Y) = _
    unfold M_brings M_brings_L16
    rw [q1', bind_pq, z1', bind_pq]
    exact k1
  · rw [j1, sC_add]
    have e104 : ∀ τ', Rx τ τ' → τ'.1 104 = nI np := fun τ' k => (k.1 104 (by decide) (by decide) (by decide)).trans h.1.1.1.2.2.1
    have loa : ∀ (n i fu : Nat) (τ' : XS), i + n = nl → n < fu → Rx τ τ' → Ln_allComes_L5_r τ' fu (nI Y) (sC (lcv σ (nI Y)) i) (nI i) = some (sC (lcv σ (nI Y)) nl) := by
      intro n
      induction n with
      | zero =>
        intro i fu τ' hi hf hx
        obtain ⟨f, rfl, -⟩ := fuel hf
        have hi : i = nl := by omega
        subst hi
        rw [Ln_allComes_L5_r, hx.1 500 (by decide) (by decide) (by decide), l3, if_pos (Int32.le_refl _)]
      | succ n ih =>
        intro i fu τ' hi hf hx
        obtain ⟨f, rfl, hf2⟩ := fuel hf
        have nx := ih (i + 1) f τ' (by omega) (by omega) hx
        rw [Ln_allComes_L5_r, hx.1 500 (by decide) (by decide) (by decide), l3, if_neg (nI_ge (by omega) (by omega)), Ln_comesOf_rx hx, (l4 i (by omega)).2, bind_so, nI_1]
        exact nx
    have per : ∀ (n i fu : Nat) (τ' : XS) (B : Int64), i + n = np → n < fu → Rx τ τ' → ∃ τ1, Cn_apartFromMembers_L18_r fu τ' (nI Y) (B - sC (fun m => cAll σ np (nI Y) m + rW σ Y m) i) (nI i) = some (B - sC (fun m => cAll σ np (nI Y) m + rW σ Y m) np, τ1) ∧ Rx τ τ1 := by
      intro n
      induction n with
      | zero =>
        intro i fu τ' B hi hf hx
        obtain ⟨f, rfl, -⟩ := fuel hf
        have hi : i = np := by omega
        subst hi
        exact ⟨τ', by rw [Cn_apartFromMembers_L18_r, e104 τ' hx, if_pos (Int32.le_refl _)], hx⟩
      | succ n ih =>
        intro i fu τ' B hi hf hx
        obtain ⟨f, rfl, hf2⟩ := fuel hf
        have hin : i < np := by omega
        have nx := fun τ' hx => ih (i + 1) f τ' B (by omega) (by omega) hx
        have skip : ∀ τ', Rx τ τ' → cAll σ np (nI Y) i = 0 → rW σ Y i = 0 → ∃ τ1, Cn_apartFromMembers_L18_r f τ' (nI Y) (B - sC (fun m => cAll σ np (nI Y) m + rW σ Y m) i) (nI (i + 1)) = some (B - sC (fun m => cAll σ np (nI Y) m + rW σ Y m) np, τ1) ∧ Rx τ τ1 := by
          intro τ' hx e1 e2
          have := nx τ' hx
          rw [sC] at this
          simp only [e1, e2, Int64.add_zero] at this
          exact this
        obtain ⟨a, l, sg, hmem⟩ := h.1.2.1.2.2.2.2.2.2.2.2 i hin
        obtain ⟨b0, b1, b2, b3⟩ := h.leftBy hin (y := nI Y)
        rw [Cn_apartFromMembers_L18_r, e104 τ' hx, if_neg (nI_ge (by omega) (by omega)), rd_nI (by omega) (by decide), hx.2.1 100 (by decide) (by decide), h.1.1.1.2.2.2.1]
        unfold Cn_apartFromMembers_J122
        rw [nI_1]
        by_cases c : σ.2.1 2 i = 1
        · have e1 : cAll σ np (nI Y) i = 0 := by
            unfold cAll
            rw [if_pos]
            rcases b0 with g | g
            · exact g
            · have := (b2 g).1
              rw [c] at this
              exact absurd this (by decide)
          rw [if_pos c, rd_nI (by omega) (by decide), rd_nI (by omega) (by decide), hx.2.1 402 (by decide) (by decide), hx.2.1 403 (by decide) (by decide), sg.2.1, sg.2.2.1]
          have l400 := sg.2.2.2.1
          by_cases cl : l.length = 0
          · have hl : l = [] := List.length_eq_zero_iff.mp cl
            rw [cl, Nat.add_zero, if_pos (Int32.le_refl _)]
            refine skip τ' hx e1 ?_
            unfold rW
            rw [if_pos c, h.rent0 hin hY (Or.inr fun e g => by
              have := (hmem e).mpr g
              rw [hl] at this
              exact absurd this List.not_mem_nil)]
            decide
          · rw [if_neg (nI_ge (by omega) (by omega))]
            obtain ⟨τ1, q1, q2⟩ := (h.rentOf hin hY).2 τ' hx
            have q1' : Cn_rentOf τ' (nI i) (nI Y) = some (Int64.ofInt (sR (rD σ i) (100 * Y) 100) / 100, τ1) := q1
            rw [q1', bind_pq]
            have := nx τ1 q2
            rw [sC] at this
            simp only [e1, show rW σ Y i = Int64.ofInt (sR (rD σ i) (100 * Y) 100) / 100 from if_pos c, Int64.zero_add] at this
            rw [← j2] at this
            exact this
        · have e2 : rW σ Y i = 0 := if_neg c
          have sm : σ.2.1 2 i = 0 := ((h.1.1.1.2.2.2.2.2.2.2 i hin).1).resolve_right c
          have ed : τ'.2.1 401 i = σ.2.1 44 i := by
            rw [hx.2.1 401 (by decide) (by decide)]
            exact h.1.2.1.2.2.2.2.2.2.1 i hin
          rw [if_neg c, rd_nI (by omega) (by decide), ed]
          by_cases c3 : σ.2.1 44 i / 100 = nI Y
          case neg =>
            rw [if_neg c3]
            refine skip τ' hx ?_ e2
            unfold cAll
            rw [if_pos]
            rcases b0 with g | g
            · exact g
            · exact absurd (b2 g).2.2 c3
          rw [if_pos c3]
          have n4 : σ.2.1 44 i ≠ 10000 := fun e => by rw [e] at c3; exact year_ne hY c3
          obtain ⟨τ1, x1, x2⟩ := h.1.heirs hin (q := np) (Nat.le_refl _) n4 τ' hx
          have x1' : Cn_heirsBelow τ' (nI i) (nI np) = some (nI (hN σ i np), τ1) := x1
          have ln : hN σ i np ≤ np := fl_len
          rw [x1', bind_pq]
          by_cases c0 : hN σ i np = 0
          · rw [c0, if_pos (show nI 0 ≤ 0 by decide)]
            refine skip τ1 x2 ?_ e2
            unfold cAll
            rw [if_pos c0]
            split <;> rfl
          rw [if_neg (by rw [show (0 : Int32) = nI 0 from rfl, nI_leI (by omega) (by omega)]; omega)]
          obtain ⟨w1, w0, w2⟩ := b3 sm n4 c3
          obtain ⟨τ2, y1, y2⟩ := w2 τ1 x2
          have y1' : Cn_sumLeft τ1 (nI i) = some ((if bI σ i (nI Y) = 0 then 0 else (wI σ i).toInt64), τ2) := y1
          rw [y1', bind_pq]
          have e3 : cAll σ np (nI Y) i = if bI σ i (nI Y) = 0 then 0 else (wI σ i).toInt64 := by
            unfold cAll
            rw [if_neg c0]
          have := nx τ2 y2
          rw [sC] at this
          simp only [e2, e3, Int64.add_zero] at this
          rw [← j2] at this
          exact this
    obtain ⟨τ1, q1, q2⟩ := a2 τ' hx
    have q1' : Cn_vacantIn τ' (nI Y) = some (vv, τ1) := q1
    obtain ⟨τ2, k1, k2⟩ := per np 0 100000 τ1 (vv + sC (lcv σ (nI Y)) nl) (by omega) (by omega) q2
    rw [sC, show (vv + sC (lcv σ (nI Y)) nl) - 0 = vv + sC (lcv σ (nI Y)) nl from Int64.sub_zero _] at k1
    refine ⟨τ2, ?_, k2⟩
    show Cn_apartFromMembers τ' (nI Y) = _
    unfold Cn_apartFromMembers Cn_apartFromMembers_L18 Ln_allComes Ln_allComes_L5
    have lo := loa nl 0 100000 τ1 (by omega) (by omega) q2
    have lo' : Ln_allComes_L5_r τ1 100000 (nI Y) 0 0 = some (sC (lcv σ (nI Y)) nl) := lo
    rw [q1', bind_pq, lo', bind_so]
    exact k1
def vJ (σ : MS) (f : MS → Option (Int64 × MS)) : Int64 := ((f σ).map Prod.fst).getD 0
theorem QM.valJ {σ : MS} {f : MS → Option (Int64 × MS)} {v : Int64} (h : QM σ f v) : vJ σ f = v := by
  obtain ⟨s, a, -⟩ := h σ (Rm.refl σ)
  unfold vJ
  rw [a]
  rfl
/-- what a year brings -/
def br (σ : MS) (Y : Nat) : Int64 := vJ σ (fun s => M_brings s (nI Y))
theorem CK.brs (h : CK σ τ K np ne bl na hh od) {Y : Nat} (hY : Y < 100) : QM σ (fun s => M_brings s (nI Y)) (br σ Y) ∧ QX τ (fun t => Cn_apartFromMembers t (nI Y)) (br σ Y) := by
  obtain ⟨v, v1, v2⟩ := h.brings hY
  have e : br σ Y = v := v1.valJ
  rw [e]
  exact ⟨v1, v2⟩
def coinE (σ : MS) (e : Nat) : Int := (σ.2.1 10 e).toInt
def PdAll (σ : MS) (Y e : Nat) : Prop := σ.2.1 43 e ≠ 0 ∧ σ.2.1 8 e = 6 ∧ ¬ nI Y < σ.2.1 11 e / 100
theorem CV.paidAll (h : CV σ τ K np ne bl na hh od) {Y : Nat} (hY : Y < 100) : sI' (fun y => sI' (fun p => pdN σ K p (nI y)) np) (Y + 1) = sF (coinE σ) (PdAll σ Y) K := by
  have h24 : np ≤ 24 := h.1.1.1
  have e1 : ∀ y, sI' (fun p => pdN σ K p (nI y)) np = sF (coinE σ) (fun e => ∃ p, p < np ∧ SPaid σ (nI p) (nI y) e) K := by
    intro y
    have := sF_parts (c := coinE σ) (S := fun p e => p < np ∧ SPaid σ (nI p) (nI y) e) (K := K) np fun i hi j k g1 g2 => by
      have e := g1.2.2.2.1.symm.trans g2.2.2.2.1
      exact (nI_eq (by have := g1.1; omega) (by have := g2.1; omega)).mp e
    have e2 : sI' (fun p => pdN σ K p (nI y)) np = sI' (fun j => sF (coinE σ) (fun e => j < np ∧ SPaid σ (nI j) (nI y) e) K) np := by
      have cg : ∀ n, n ≤ np → sI' (fun p => pdN σ K p (nI y)) n = sI' (fun j => sF (coinE σ) (fun e => j < np ∧ SPaid σ (nI j) (nI y) e) K) n := by
        intro n
        induction n with
        | zero => intro _; rfl
        | succ n ih =>
          intro hn
          rw [sI', sI', ih (by omega)]
          congr 1
          show sF (coinE σ) (SPaid σ (nI n) (nI y)) K = _
          exact sF_congr fun i _ => ⟨fun g => ⟨by omega, g⟩, fun g => g.2⟩
      exact cg np (Nat.le_refl _)
    rw [e2, this]
    exact sF_congr fun i _ => ⟨fun ⟨j, a, b⟩ => ⟨j, b⟩, fun ⟨j, b⟩ => ⟨j, b.1, b⟩⟩
  have e3 : sI' (fun y => sI' (fun p => pdN σ K p (nI y)) np) (Y + 1) = sI' (fun y => sF (coinE σ) (fun e => y < 100 ∧ ∃ p, p < np ∧ SPaid σ (nI p) (nI y) e) K) (Y + 1) := by
    have cg : ∀ n, n ≤ Y + 1 → sI' (fun y => sI' (fun p => pdN σ K p (nI y)) np) n = sI' (fun y => sF (coinE σ) (fun e => y < 100 ∧ ∃ p, p < np ∧ SPaid σ (nI p) (nI y) e) K) n := by
      intro n
      induction n with
      | zero => intro _; rfl
      | succ n ih =>
        intro hn
        rw [sI', sI', ih (by omega), e1]
        congr 1
        exact sF_congr fun i _ => ⟨fun g => ⟨by omega, g⟩, fun g => g.2⟩
    exact cg (Y + 1) (Nat.le_refl _)
  rw [e3, sF_parts (c := coinE σ) (S := fun y e => y < 100 ∧ ∃ p, p < np ∧ SPaid σ (nI p) (nI y) e) (K := K) (Y + 1) fun i hi j k g1 g2 => by
    obtain ⟨a1, p1, b1, c1⟩ := g1
    obtain ⟨a2, p2, b2, c2⟩ := g2
    exact (nI_eq (by omega) (by omega)).mp (c1.2.2.2.symm.trans c2.2.2.2)]
  refine sF_congr fun e he => ⟨?_, ?_⟩
  · rintro ⟨y, hy, hy2, p, hp, g1, g2, g3, g4⟩
    refine ⟨g1, g2, ?_⟩
    rw [g4, nI_ltI (by omega) (by omega)]
    omega
  · rintro ⟨g1, g2, g3⟩
    obtain ⟨-, ⟨q, hq, eq, -⟩, d1, d2⟩ := h.2.1.2.2.2.2.2.2.2.1 e he g1
    obtain ⟨D, hD, eD⟩ := inRn (k := σ.2.1 11 e) (n := 9999) ⟨d1, by omega⟩ (by decide)
    have ey : σ.2.1 11 e / 100 = nI (D / 100) := by rw [eD, show (100 : Int32) = nI 100 from rfl, pk_div (by omega) (by decide) (by decide)]
    rw [ey, nI_ltI (by omega) (by omega)] at g3
    exact ⟨D / 100, by omega, by omega, q, hq, g1, g2, eq, ey⟩
theorem CK.chest (h : CK σ τ K np ne bl na hh od) {Y : Nat} (hY : Y < 100) : ∃ v, QM σ (fun s => M_chestBehind s (nI Y)) v ∧ QX τ (fun t => Cn_chestBehind t (nI Y)) v := by
  have h24 : np ≤ 24 := h.1.1.1.1
  have hK : K ≤ 200 := h.1.2.1.1
  have hk : σ.1 45 = nI K := h.1.2.1.2.2.1
  have e205 : τ.1 205 = σ.1 26 := h.1.1.2.2.1.2.2.2.1.2
  refine ⟨((σ.1 26).toInt64 + sC (br σ) (Y + 1)) + Int64.ofInt (sF (coinE σ) (PdAll σ Y) K), fun σ' hm => ?_, fun τ' hx => ?_⟩
  · have ent : ∀ (n i fu : Nat) (σ' : MS) (B : Int64), i + n = K → n < fu → Rm σ σ' → M_chestBehind_L33_r fu σ' (nI Y) (B + Int64.ofInt (sF (coinE σ) (PdAll σ Y) i)) (nI i) = some (B + Int64.ofInt (sF (coinE σ) (PdAll σ Y) K), σ') := by
      intro n
      induction n with
      | zero =>
        intro i fu σ' B hi hf hm
        obtain ⟨f, rfl, -⟩ := fuel hf
        have hi : i = K := by omega
        subst hi
        rw [M_chestBehind_L33_r, hm.1 45 (by decide) (by decide) (by decide), hk, if_pos (Int32.le_refl _)]
      | succ n ih =>
        intro i fu σ' B hi hf hm
        obtain ⟨f, rfl, hf2⟩ := fuel hf
        have nx := ih (i + 1) f σ' B (by omega) (by omega) hm
        rw [M_chestBehind_L33_r, hm.1 45 (by decide) (by decide) (by decide), hk, if_neg (nI_ge (by omega) (by omega))]
        simp only [rd_nI (show i < 200 by omega) (show 200 < 2 ^ 31 by decide), M_chestBehind_J90, M_chestBehind_J91, M_yearOf, bind_so, hm.2.1 43 (by decide), hm.2.1 8 (by decide), hm.2.1 10 (by decide), hm.2.1 11 (by decide), nI_1, Int64.add_zero]
        by_cases c1 : σ.2.1 43 i = 0
        · rw [if_pos c1]
          rw [sF_neg fun g => g.1 c1] at nx
          exact nx
        rw [if_neg c1]
        by_cases c2 : σ.2.1 8 i = 6
        case neg =>
          rw [if_neg c2]
          rw [sF_neg fun g => c2 g.2.1] at nx
          exact nx
        rw [if_pos c2]
        by_cases c3 : nI Y < σ.2.1 11 i / 100
        · rw [if_pos c3]
          rw [sF_neg fun g => g.2.2 c3] at nx
          exact nx
        rw [if_neg c3]
        rw [sF_pos ⟨c1, c2, c3⟩, Int64.ofInt_add, ← Int64.add_assoc, show Int64.ofInt (coinE σ i) = (σ.2.1 10 i).toInt64 from (i64_of rfl).symm] at nx
        exact nx
    have yrs : ∀ (n y fu : Nat) (σ' : MS), y + n = Y + 1 → n < fu → Rm σ σ' → ∃ σ1, M_chestBehind_L9_r fu σ' (nI Y) ((σ.1 26).toInt64 + sC (br σ) y) (nI y) = some (((σ.1 26).toInt64 + sC (br σ) (Y + 1)) + Int64.ofInt (sF (coinE σ) (PdAll σ Y) K), σ1) ∧ Rm σ σ1 := by
      intro n
      induction n with
      | zero =>
        intro y fu σ' hy hf hm
        obtain ⟨f, rfl, -⟩ := fuel hf
        have hy : y = Y + 1 := by omega
        subst hy
        rw [M_chestBehind_L9_r, if_pos ((nI_ltI (by omega) (by omega)).mpr (by omega))]
        have := ent K 0 100000 σ' ((σ.1 26).toInt64 + sC (br σ) (Y + 1)) (by omega) (by omega) hm
        rw [show Int64.ofInt (sF (coinE σ) (PdAll σ Y) 0) = 0 from rfl, Int64.add_zero] at this
        exact ⟨σ', this, hm⟩
      | succ n ih =>
        intro y fu σ' hy hf hm
        obtain ⟨f, rfl, hf2⟩ := fuel hf
        obtain ⟨σ1, q1, q2⟩ := (h.brs (Y := y) (by omega)).1 σ' hm
        have q1' : M_brings σ' (nI y) = some (br σ y, σ1) := q1
        have nx := ih (y + 1) f σ1 (by omega) (by omega) q2
        rw [sC, ← Int64.add_assoc] at nx
        rw [M_chestBehind_L9_r, if_neg (by rw [nI_ltI (by omega) (by omega)]; omega), q1', bind_pq, nI_1]
        exact nx
    obtain ⟨σ1, k1, k2⟩ := yrs (Y + 1) 0 100000 σ' (by omega) (by omega) hm
    rw [sC, Int64.add_zero] at k1
    refine ⟨σ1, ?_, k2⟩
    show M_chestBehind σ' (nI Y) = _
    unfold M_chestBehind M_chestBehind_L9
    rw [hm.1 26 (by decide) (by decide) (by decide)]
    exact k1
  · rw [← h.1.paidAll hY]
    have e104 : ∀ τ', Rx τ τ' → τ'.1 104 = nI np := fun τ' k => (k.1 104 (by decide) (by decide) (by decide)).trans h.1.1.1.2.2.1
    have per : ∀ (k9 : XS → Int32 → Int64 → Int32 → Option (Int64 × XS)) (y : Nat), y < 100 → ∀ (n i fu : Nat) (τ' : XS) (B : Int64), i + n = np → n < fu → Rx τ τ' → Cn_chestBehind_L27_r k9 fu τ' (nI Y) (B + Int64.ofInt (sI' (fun p => pdN σ K p (nI y)) i)) (nI y) (nI i) = k9 τ' (nI Y) (B + Int64.ofInt (sI' (fun p => pdN σ K p (nI y)) np)) (nI (y + 1)) := by
      intro k9 y hy n
      induction n with
      | zero =>
        intro i fu τ' B hi hf hx
        obtain ⟨f, rfl, -⟩ := fuel hf
        have hi : i = np := by omega
        subst hi
        rw [Cn_chestBehind_L27_r, e104 τ' hx, if_pos (Int32.le_refl _), nI_1]
      | succ n ih =>
        intro i fu τ' B hi hf hx
        obtain ⟨f, rfl, hf2⟩ := fuel hf
        have nx := ih (i + 1) f τ' B (by omega) (by omega) hx
        rw [sI', Int64.ofInt_add, ← Int64.add_assoc] at nx
        have p2 : Lv_paidIn τ' (nI i) (nI y) = some _ := (h.1.paid (p := i) (by omega) (nI y)).2.2 τ' hx
        rw [Cn_chestBehind_L27_r, e104 τ' hx, if_neg (nI_ge (by omega) (by omega)), p2, bind_so, nI_1]
        exact nx
    have yrs : ∀ (n y fu : Nat) (τ' : XS), y + n = Y + 1 → n < fu → Rx τ τ' → ∃ τ1, Cn_chestBehind_L9_r fu τ' (nI Y) (((σ.1 26).toInt64 + sC (br σ) y) + Int64.ofInt (sI' (fun y => sI' (fun p => pdN σ K p (nI y)) np) y)) (nI y) = some (((σ.1 26).toInt64 + sC (br σ) (Y + 1)) + Int64.ofInt (sI' (fun y => sI' (fun p => pdN σ K p (nI y)) np) (Y + 1)), τ1) ∧ Rx τ τ1 := by
      intro n
      induction n with
      | zero =>
        intro y fu τ' hy hf hx
        obtain ⟨f, rfl, -⟩ := fuel hf
        have hy : y = Y + 1 := by omega
        subst hy
        exact ⟨τ', by rw [Cn_chestBehind_L9_r, if_pos ((nI_ltI (by omega) (by omega)).mpr (by omega))], hx⟩
      | succ n ih =>
        intro y fu τ' hy hf hx
        obtain ⟨f, rfl, hf2⟩ := fuel hf
        obtain ⟨τ1, q1, q2⟩ := (h.brs (Y := y) (by omega)).2 τ' hx
        have q1' : Cn_apartFromMembers τ' (nI y) = some (br σ y, τ1) := q1
        have nx := ih (y + 1) f τ1 (by omega) (by omega) q2
        rw [sC, sI', Int64.ofInt_add, ← Int64.add_assoc ((σ.1 26).toInt64)] at nx
        rw [Cn_chestBehind_L9_r, if_neg (by rw [nI_ltI (by omega) (by omega)]; omega), q1', bind_pq]
        unfold Cn_chestBehind_L27
        have pe := per (Cn_chestBehind_L9_r f) y (by omega) np 0 100000 τ1 ((((σ.1 26).toInt64 + sC (br σ) y) + Int64.ofInt (sI' (fun y => sI' (fun p => pdN σ K p (nI y)) np) y)) + br σ y) (by omega) (by omega) q2
        rw [show Int64.ofInt (sI' (fun p => pdN σ K p (nI y)) 0) = 0 from rfl, Int64.add_zero] at pe
        have pe' : Cn_chestBehind_L27_r (Cn_chestBehind_L9_r f) 100000 τ1 (nI Y) ((((σ.1 26).toInt64 + sC (br σ) y) + Int64.ofInt (sI' (fun y => sI' (fun p => pdN σ K p (nI y)) np) y)) + br σ y) (nI y) 0 = _ := pe
        rw [pe']
        have ea : ((((σ.1 26).toInt64 + sC (br σ) y) + Int64.ofInt (sI' (fun y => sI' (fun p => pdN σ K p (nI y)) np) y)) + br σ y) + Int64.ofInt (sI' (fun p => pdN σ K p (nI y)) np) = (((σ.1 26).toInt64 + sC (br σ) y) + br σ y) + (Int64.ofInt (sI' (fun y => sI' (fun p => pdN σ K p (nI y)) np) y) + Int64.ofInt (sI' (fun p => pdN σ K p (nI y)) np)) := by
          rw [Int64.add_assoc, j3]
        rw [ea]
        exact nx
    obtain ⟨τ1, k1, k2⟩ := yrs (Y + 1) 0 100000 τ' (by omega) (by omega) hx
    rw [sC, sI', Int64.add_zero, show Int64.ofInt 0 = 0 from rfl, Int64.add_zero] at k1
    refine ⟨τ1, ?_, k2⟩
    show Cn_chestBehind τ' (nI Y) = _
    unfold Cn_chestBehind Cn_chestBehind_L9
    rw [hx.1 205 (by decide) (by decide) (by decide), e205]
    exact k1
end CHEST
theorem st27 : St27 (InvA ActI) := by
  intro σ τ xs i h
  have same : InvA ActI σ τ := h
  obtain ⟨np, ne, bl, hP, hB, hM, ha⟩ := h
  generalize xs (i + 1) = p1
  generalize xs (i + 2) = p2
  unfold W_chest M_chest
  rw [Bk_isReach_eq hB.2.2.1, M_isBy_eq hB.2.1, W_isYear_eq, M_isYear_eq]
  simp only [bind_so, b01_if]
  by_cases cy : 0 ≤ p1 ∧ p1 ≤ 99
  case neg =>
    rw [if_neg cy, if_neg cy]
    exact ⟨_, _, _, rfl, rfl, same⟩
  rw [if_pos cy, if_pos cy]
  obtain ⟨Y, hY, rfl⟩ := inRn (k := p1) (n := 99) ⟨i32_le.mp cy.1, i32_le.mp cy.2⟩ (by decide)
  by_cases c1 : -1 ≤ p2 ∧ p2 ≤ nI ne
  case neg =>
    rw [if_neg c1, if_neg c1]
    exact ⟨_, _, _, rfl, rfl, same⟩
  rw [if_pos c1, if_pos c1]
  obtain ⟨na, hh, od, cb⟩ := InvA.cb hP hB hM ha
  obtain ⟨K, σl, τl, τ1, q1, q2, ck, hx, sM, sX⟩ := cb.look c1
  obtain ⟨v, v1, v2⟩ := ck.chest (Y := Y) (by omega)
  obtain ⟨σ2, y1, y2⟩ := v1 σl (Rm.refl σl)
  have y1' : M_chestBehind σl (nI Y) = some (v, σ2) := y1
  obtain ⟨τ2, z1, z2⟩ := v2 τ1 hx
  have z1' : Cn_chestBehind τ1 (nI Y) = some (v, τ2) := z1
  rw [q1, q2, bind_pq, bind_pq, y1', z1', bind_pq, bind_pq]
  exact ⟨_, _, _, rfl, rfl, same.same ActI_stb (sM.trans y2.same) (sX.trans z2.same)⟩
