/-! a told year: check and judge -/
section TOLD
variable {σ σ' : MS} {τ τ' : XS} {K np ne na : Nat} {bl od : List Nat} {hh : Nat → Nat}
theorem CK.number (h : CK σ τ K np ne bl na hh od) {p w : Nat} (hp : p < np) (hw : w < 3) {Y : Nat} (hY : Y < 100) : ∃ v, QM σ (fun s => M_isDue s (nI (3 * p + w)) (nI Y)) v ∧ QX τ (fun t => Cn_numberOf t (nI (3 * p + w) / 3) (nI (3 * p + w) - nI (3 * p + w) / 3 * 3) (nI Y)) v := by
  have h24 : np ≤ 24 := h.1.1.1.1
  have e1 : nI (3 * p + w) / 3 = nI p := by rw [show (3 : Int32) = nI 3 from rfl, pk_div (by omega) (by decide) (by decide), show (3 * p + w) / 3 = p by omega]
  have e2 : nI (3 * p + w) - nI p * 3 = nI w := by rw [← e1, show (3 : Int32) = nI 3 from rfl, pk_rem (by omega) (by decide) (by decide), show (3 * p + w) % 3 = w by omega]
  have n72 : ¬ nI (3 * p + w) = 72 := by rw [show (72 : Int32) = nI 72 from rfl, nI_eq (by omega) (by omega)]; omega
  have uM : ∀ σ', Rm σ σ' → M_isDue σ' (nI (3 * p + w)) (nI Y) = if nI w = 0 then (if σ.2.1 2 p = 0 then (M_dueOf σ' (nI p) (nI (100 * Y))).bind (pq fun r5 r5s => (some (r5.toInt64, r5s))) else some (0, σ')) else if nI w = 1 then (if σ.2.1 2 p = 1 then (M_rentOf σ' (nI p) (nI Y)).bind (pq fun r3 r3s => (some (r3, r3s))) else some (0, σ')) else (M_sumOf σ' (nI p) (nI Y)).bind (pq fun r1 r1s => (some (r1, r1s))) := by
    intro σ' hm
    unfold M_isDue
    rw [if_neg n72, e1, e2, rd_nI (by omega) (by decide), rd_nI (by omega) (by decide), hm.2.1 2 (by decide), yd']
  rw [e1, e2]
  have sx := (h.1.1.1.2.2.2.2.2.2.2 p hp).1
  rcases (show w = 0 ∨ w = 1 ∨ w = 2 by omega) with rfl | rfl | rfl
  · obtain ⟨u, -, u1, u2⟩ := h.1.due hp hY
    have uX : QX τ (fun t => Cn_numberOf t (nI p) (nI 0) (nI Y)) u.toInt64 := fun τ' hx => by
      obtain ⟨τ1, q1, q2⟩ := u2 τ' hx
      have q1' : Cn_duesOf τ' (nI p) (nI Y) = some (u.toInt64, τ1) := q1
      refine ⟨τ1, ?_, q2⟩
      show Cn_numberOf τ' (nI p) (nI 0) (nI Y) = _
      unfold Cn_numberOf
      rw [if_pos (show nI 0 = 0 from rfl), q1', bind_pq]
    refine ⟨u.toInt64, fun σ' hm => ?_, uX⟩
    show ∃ σ1, M_isDue σ' (nI (3 * p + 0)) (nI Y) = _ ∧ _
    rw [uM σ' hm, if_pos (show nI 0 = 0 from rfl)]
    by_cases c : σ.2.1 2 p = 0
    · obtain ⟨σ1, q1, q2⟩ := u1 σ' hm
      have q1' : M_dueOf σ' (nI p) (nI (100 * Y)) = some (u, σ1) := q1
      rw [if_pos c, q1', bind_pq]
      exact ⟨σ1, rfl, q2⟩
    · rw [if_neg c]
      have e0 : u = 0 := by
        obtain ⟨σ1, q1, -⟩ := u1 σ (Rm.refl σ)
        have q1' : M_dueOf σ (nI p) (nI (100 * Y)) = some (u, σ1) := q1
        unfold M_dueOf at q1'
        rw [h.1.woman hp (sx.resolve_left c), bind_so, if_pos rfl] at q1'
        exact (Prod.mk.inj (Option.some.inj q1')).1.symm
      rw [e0]
      exact ⟨σ', rfl, hm⟩
  · obtain ⟨r1, r2⟩ := h.rentOf hp hY
    refine ⟨Int64.ofInt (sR (rD σ p) (100 * Y) 100) / 100, fun σ' hm => ?_, fun τ' hx => ?_⟩
    · show ∃ σ1, M_isDue σ' (nI (3 * p + 1)) (nI Y) = _ ∧ _
      rw [uM σ' hm, if_neg (show ¬ nI 1 = 0 by decide), if_pos (show nI 1 = 1 from rfl)]
      by_cases c : σ.2.1 2 p = 1
      · obtain ⟨σ1, q1, q2⟩ := r1 σ' hm
        have q1' : M_rentOf σ' (nI p) (nI Y) = some (Int64.ofInt (sR (rD σ p) (100 * Y) 100) / 100, σ1) := q1
        rw [if_pos c, q1', bind_pq]
        exact ⟨σ1, rfl, q2⟩
      · rw [if_neg c, h.rent0 hp hY (Or.inl c)]
        exact ⟨σ', by rw [show (Int64.ofInt 0 / 100 : Int64) = 0 by decide], hm⟩
    · obtain ⟨τ1, q1, q2⟩ := r2 τ' hx
      have q1' : Cn_rentOf τ' (nI p) (nI Y) = some (Int64.ofInt (sR (rD σ p) (100 * Y) 100) / 100, τ1) := q1
      refine ⟨τ1, ?_, q2⟩
      show Cn_numberOf τ' (nI p) (nI 1) (nI Y) = _
      unfold Cn_numberOf
      rw [if_neg (show ¬ nI 1 = 0 by decide), if_pos (show nI 1 = 1 from rfl), q1', bind_pq]
  · obtain ⟨r1, r2⟩ := h.sumOne hp hY
    refine ⟨sC (cOne σ np (nI Y) p) np, fun σ' hm => ?_, fun τ' hx => ?_⟩
    · obtain ⟨σ1, q1, q2⟩ := r1 σ' hm
      have q1' : M_sumOf σ' (nI p) (nI Y) = some (sC (cOne σ np (nI Y) p) np, σ1) := q1
      refine ⟨σ1, ?_, q2⟩
      show M_isDue σ' (nI (3 * p + 2)) (nI Y) = _
      rw [uM σ' hm, if_neg (show ¬ nI 2 = 0 by decide), if_neg (show ¬ nI 2 = 1 by decide), q1', bind_pq]
    · obtain ⟨τ1, q1, q2⟩ := r2 τ' hx
      have q1' : Cn_sumOf τ' (nI p) (nI Y) = some (sC (cOne σ np (nI Y) p) np, τ1) := q1
      refine ⟨τ1, ?_, q2⟩
      show Cn_numberOf τ' (nI p) (nI 2) (nI Y) = _
      unfold Cn_numberOf
      rw [if_neg (show ¬ nI 2 = 0 by decide), if_neg (show ¬ nI 2 = 1 by decide), q1', bind_pq]
theorem CK.number' (h : CK σ τ K np ne bl na hh od) {at' : Nat} (ha : at' < 3 * np) {Y : Nat} (hY : Y < 100) : ∃ v, QM σ (fun s => M_isDue s (nI at') (nI Y)) v ∧ QX τ (fun t => Cn_numberOf t (nI at' / 3) (nI at' - nI at' / 3 * 3) (nI Y)) v := by
  have := h.number (p := at' / 3) (w := at' % 3) (by omega) (by omega) hY
  rw [show 3 * (at' / 3) + at' % 3 = at' by omega] at this
  exact this
theorem CK.chest' (h : CK σ τ K np ne bl na hh od) {Y : Nat} (hY : Y < 100) : ∃ v, QM σ (fun s => M_isDue s 72 (nI Y)) v ∧ QX τ (fun t => Cn_chestBehind t (nI Y)) v := by
  obtain ⟨v, v1, v2⟩ := h.chest hY
  refine ⟨v, fun σ' hm => ?_, v2⟩
  obtain ⟨σ1, q1, q2⟩ := v1 σ' hm
  have q1' : M_chestBehind σ' (nI Y) = some (v, σ1) := q1
  refine ⟨σ1, ?_, q2⟩
  show M_isDue σ' 72 (nI Y) = _
  unfold M_isDue
  rw [if_pos rfl, q1', bind_pq]
theorem n3 (np : Nat) : (3 : Int32) * nI np = nI (3 * np) := by rw [show (3 : Int32) = nI 3 from rfl, nI_mul]
theorem CK.check (h : CK σ τ K np ne bl na hh od) (ht : τ.2.2.1 = σ.2.2) {Y : Nat} (hY : Y < 100) : ∀ (n i fu fu' : Nat) (σ' : MS) (τ' : XS), i + n = 3 * np → n < fu → n < fu' → Rm σ σ' → Rx τ τ' → ∃ r σ1 τ1, M_check_L27_r fu σ' (nI Y) (nI i) = some (r, σ1) ∧ Rm σ σ1 ∧ W_check_L33_r fu' τ' (nI Y) (nI i) = some (r, τ1) ∧ Rx τ τ1 := by
  have h24 : np ≤ 24 := h.1.1.1.1
  have tM : ∀ σ', Rm σ σ' → σ'.2.2 = σ.2.2 := fun σ' k => k.2.2
  have tX : ∀ τ', Rx τ τ' → τ'.2.2.1 = σ.2.2 := fun τ' k => by rw [k.2.2]; exact ht
  intro n
  induction n with
  | zero =>
    intro i fu fu' σ' τ' hi hf hf' hm hx
    obtain ⟨f, rfl, -⟩ := fuel hf
    obtain ⟨f', rfl, -⟩ := fuel hf'
    have hi : i = 3 * np := by omega
    subst hi
    obtain ⟨v, v1, v2⟩ := h.chest' hY
    obtain ⟨σ1, q1, q2⟩ := v1 σ' hm
    have q1' : M_isDue σ' 72 (nI Y) = some (v, σ1) := q1
    obtain ⟨τ1, y1, y2⟩ := v2 τ' hx
    have y1' : Cn_chestBehind τ' (nI Y) = some (v, τ1) := y1
    rw [M_check_L27_r, W_check_L33_r, hm.1 1 (by decide) (by decide) (by decide), h.1.1.1.2.1, hx.1 104 (by decide) (by decide) (by decide), h.1.1.1.2.2.1, n3, if_pos (Int32.le_refl _), if_pos (Int32.le_refl _), tM σ' hm, tX τ' hx]
    have e72 : ∀ {β : Type} (k : Int64 → Option β), rd σ.2.2 73 72 k = k (σ.2.2 72) := fun k => rd_nI (i := 72) (by decide) (by decide)
    rw [e72, e72, q1', bind_pq, y1', bind_pq]
    by_cases c : lg_cmp (σ.2.2 72) v = 0
    · rw [if_pos c, if_pos c]
      exact ⟨_, _, _, rfl, q2, rfl, y2⟩
    · rw [if_neg c, if_neg c]
      exact ⟨_, _, _, rfl, q2, rfl, y2⟩
  | succ n ih =>
    intro i fu fu' σ' τ' hi hf hf' hm hx
    obtain ⟨f, rfl, hf2⟩ := fuel hf
    obtain ⟨f', rfl, hf2'⟩ := fuel hf'
    obtain ⟨v, v1, v2⟩ := h.number' (at' := i) (by omega) hY
    obtain ⟨σ1, q1, q2⟩ := v1 σ' hm
    have q1' : M_isDue σ' (nI i) (nI Y) = some (v, σ1) := q1
    obtain ⟨τ1, y1, y2⟩ := v2 τ' hx
    have y1' : Cn_numberOf τ' (nI i / 3) (nI i - nI i / 3 * 3) (nI Y) = some (v, τ1) := y1
    rw [M_check_L27_r, W_check_L33_r, hm.1 1 (by decide) (by decide) (by decide), h.1.1.1.2.1, hx.1 104 (by decide) (by decide) (by decide), h.1.1.1.2.2.1, n3, if_neg (nI_ge (by omega) (by omega)), if_neg (nI_ge (by omega) (by omega)), tM σ' hm, tX τ' hx, rd_nI (show i < 73 by omega) (by decide), rd_nI (show i < 73 by omega) (by decide), q1', bind_pq, y1', bind_pq]
    by_cases c : lg_cmp (σ.2.2 i) v = 0
    · rw [if_pos c, if_pos c, nI_1]
      exact ih (i + 1) f f' σ1 τ1 (by omega) (by omega) (by omega) q2 y2
    · rw [if_neg c, if_neg c]
      exact ⟨_, _, _, rfl, q2, rfl, y2⟩
/-- the view is the same whatever year is told -/
theorem CK.told (h : CK σ τ K np ne bl na hh od) (f : Nat → Int64) : CK (sJ σ f) (xJ τ f) K np ne bl na hh od := by
  have h0 := h
  obtain ⟨⟨⟨P, B, M, A, h16, S⟩, V, hK, D⟩, kp⟩ := h
  have cM : CV (sJ σ f) τ K np ne bl na hh od := ⟨⟨P, B, M, A, h16, S⟩, V, hK, D⟩
  have S' : StepV (sJ σ f) (xJ τ f) := by
    intro s v hv
    rw [Tr_stepped_congr (τ := τ) (τ' := xJ τ f) rfl rfl rfl]
    exact S s v hv
  refine ⟨⟨⟨P, B, M, A, h16, S'⟩, V, hK, D⟩, fun p hp c => ?_⟩
  obtain ⟨k0, k1⟩ := kp p hp c
  refine ⟨k0, ?_⟩
  obtain ⟨-, d1, d2⟩ := h0.1.dies hp c
  obtain ⟨c1, -, x1, x2⟩ := h0.1.counted hp (d := σ.2.1 44 p - 1) ⟨d1, d2⟩
  obtain ⟨c2, -, y1, y2⟩ := cM.counted hp (d := σ.2.1 44 p - 1) ⟨d1, d2⟩
  have e1 : c1 = τ.2.1 206 p := x1.uniq k1
  have e2 : c2 = c1 := y2.uniq x2
  rw [e2, e1] at y1
  exact y1
theorem Rm.told (h : Rm σ σ') (f : Nat → Int64) : Rm (sJ σ f) (sJ σ' f) := ⟨h.1, h.2.1, rfl⟩
theorem Rx.told (h : Rx τ τ') (f : Nat → Int64) : Rx (xJ τ f) (xJ τ' f) := ⟨h.1, h.2.1, by
  show (f, τ'.2.2.2) = (f, τ.2.2.2)
  rw [h.2.2]⟩
theorem lg_sym {a b : Int64} : lg_cmp a b = 0 ↔ lg_cmp b a = 0 := by
  rw [lg_cmp_eq, lg_cmp_eq]
  exact ⟨Eq.symm, Eq.symm⟩
theorem exch {i : Nat} (hi : i < 73) (τ : XS) (v : Int64) : Ty_exchange τ (nI i) v = some (τ.2.2.1 i, xJ τ (vp_updL τ.2.2.1 i v)) := by
  unfold Ty_exchange
  rw [if_neg (nI_not_lt0 (by omega)), if_pos (by rw [show (72 : Int32) = nI 72 from rfl, nI_leI (by omega) (by omega)]; omega), rd_nI hi (by decide), wr_nI hi (by decide), cl_nI (by omega)]
theorem CK.judge (h : CK σ τ K np ne bl na hh od) {Y : Nat} (hY : Y < 100) : ∀ (n i fu fu' : Nat) (f : Nat → Int64) (c : Nat) (σ' : MS) (τ' : XS), i + n = 3 * np → n + 100 < fu → n < fu' → c ≤ i → Rm (sJ σ f) σ' → Rx (xJ τ f) τ' → ∃ f' r σ1 τ1, M_judge_L30_r fu σ' (nI Y) (nI c) (nI i) = some (r, σ1) ∧ Rm (sJ σ f') σ1 ∧ W_judge_L36_r fu' τ' (nI Y) (nI c) (nI i) = some (r, τ1) ∧ Rx (xJ τ f') τ1 := by
  have h24 : np ≤ 24 := h.1.1.1.1
  intro n
  induction n with
  | zero =>
    intro i fu fu' f c σ' τ' hi hf hf' hc hm hx
    obtain ⟨fx, rfl, -⟩ := fuel hf'
    have hi : i = 3 * np := by omega
    subst hi
    have tM : σ'.2.2 = f := hm.2.2
    have tX : τ'.2.2.1 = f := by rw [hx.2.2]; rfl
    obtain ⟨v, v1, v2⟩ := (h.told f).chest' hY
    -- the reference passes the places of nobody
    have pass : ∀ (k j fu : Nat), j + k = 72 → 3 * np ≤ j → k < fu → M_judge_L30_r fu σ' (nI Y) (nI c) (nI j) = M_judge_L30_r (fu - k) σ' (nI Y) (nI c) 72 := by
      intro k
      induction k with
      | zero =>
        intro j fu hj _ _
        have : j = 72 := by omega
        subst this
        rfl
      | succ k ihk =>
        intro j fu hj hj2 hf
        obtain ⟨fm, rfl, -⟩ := fuel hf
        rw [M_judge_L30_r, hm.1 1 (by decide) (by decide) (by decide), show (sJ σ f).1 1 = nI np from h.1.1.1.2.1, n3, if_neg (by rw [show (72 : Int32) = nI 72 from rfl, nI_ltI (by omega) (by omega)]; omega), if_neg (by rw [nI_ltI (by omega) (by omega)]; omega), if_neg (by rw [show (72 : Int32) = nI 72 from rfl, nI_eq (by omega) (by omega)]; omega)]
        unfold M_judge_J94
        rw [nI_1, ihk (j + 1) fm (by omega) (by omega) (by omega), show fm + 1 - (k + 1) = fm - k by omega]
    have hp := pass (72 - 3 * np) (3 * np) fu (by omega) (Nat.le_refl _) (by omega)
    rw [hp]
    obtain ⟨fm, hfm⟩ : ∃ fm, fu - (72 - 3 * np) = fm + 2 := ⟨fu - (72 - 3 * np) - 2, by omega⟩
    obtain ⟨σ1, q1, q2⟩ := v1 σ' hm
    have q1' : M_isDue σ' 72 (nI Y) = some (v, σ1) := q1
    obtain ⟨τ1, y1, y2⟩ := v2 τ' hx
    have y1' : Cn_chestBehind τ' (nI Y) = some (v, τ1) := y1
    have e72 : (72 : Int32) = nI 72 := rfl
    have tM1 : σ1.2.2 = f := q2.2.2
    have tX1 : τ1.2.2.1 = f := by rw [y2.2.2]; rfl
    have j72 : M_judge_L30_r (fm + 2) σ' (nI Y) (nI c) 72 = M_judge_J55 (M_judge_L30_r (fm + 1)) σ' (nI Y) (nI c) 72 := by
      rw [M_judge_L30_r, if_neg (by decide), if_pos (show (72 : Int32) = 72 from rfl)]
      split <;> rfl
    rw [hfm, j72, W_judge_L36_r, hx.1 104 (by decide) (by decide) (by decide), show (xJ τ f).1 104 = nI np from h.1.1.1.2.2.1, n3, if_pos (Int32.le_refl _), y1', bind_pq]
    unfold M_judge_J55 M_judge_J83 M_judge_J94
    rw [q1', bind_pq, e72, exch (by decide), bind_pq, tX1, tM1, rd_nI (show 72 < 73 by decide) (by decide), wr_nI (show 72 < 73 by decide) (by decide), wr_nI (show 72 < 73 by decide) (by decide), cl_nI (show 72 < 2 ^ 31 by decide), nI_1]
    have out : ∀ (s : MS) (r : Int32), M_judge_L30_r (fm + 1) s (nI Y) r (nI (72 + 1)) = some (r, s) := fun s r => by
      rw [M_judge_L30_r, if_pos (by decide)]
    refine ⟨vp_updL f 72 v, ?_⟩
    by_cases cc : lg_cmp v (f 72) = 0
    · rw [if_pos cc, if_pos (lg_sym.mp cc), out, Int32.add_zero]
      exact ⟨_, _, _, rfl, q2.told _, rfl, y2.told _⟩
    · rw [if_neg cc, if_neg (fun e => cc (lg_sym.mp e)), out]
      exact ⟨_, _, _, rfl, q2.told _, rfl, y2.told _⟩
  | succ n ih =>
    intro i fu fu' f c σ' τ' hi hf hf' hc hm hx
    obtain ⟨fm, rfl, hf2⟩ := fuel hf
    obtain ⟨fx, rfl, hf2'⟩ := fuel hf'
    obtain ⟨v, v1, v2⟩ := (h.told f).number' (at' := i) (by omega) hY
    obtain ⟨σ1, q1, q2⟩ := v1 σ' hm
    have q1' : M_isDue σ' (nI i) (nI Y) = some (v, σ1) := q1
    obtain ⟨τ1, y1, y2⟩ := v2 τ' hx
    have y1' : Cn_numberOf τ' (nI i / 3) (nI i - nI i / 3 * 3) (nI Y) = some (v, τ1) := y1
    have tM1 : σ1.2.2 = f := q2.2.2
    have tX1 : τ1.2.2.1 = f := by rw [y2.2.2]; rfl
    rw [M_judge_L30_r, W_judge_L36_r, hm.1 1 (by decide) (by decide) (by decide), show (sJ σ f).1 1 = nI np from h.1.1.1.2.1, hx.1 104 (by decide) (by decide) (by decide), show (xJ τ f).1 104 = nI np from h.1.1.1.2.2.1, n3, if_neg (by rw [show (72 : Int32) = nI 72 from rfl, nI_ltI (by omega) (by omega)]; omega), if_pos ((nI_ltI (by omega) (by omega)).mpr (by omega)), if_neg (nI_ge (by omega) (by omega)), y1', bind_pq]
    unfold M_judge_J55 M_judge_J83 M_judge_J94 W_judge_J88
    rw [q1', bind_pq, exch (show i < 73 by omega), bind_pq, tX1, tM1, rd_nI (show i < 73 by omega) (by decide), wr_nI (show i < 73 by omega) (by decide), wr_nI (show i < 73 by omega) (by decide), cl_nI (show i < 2 ^ 31 by omega)]
    simp only [nI_1, Int32.add_zero]
    by_cases cc : lg_cmp v (f i) = 0
    · rw [if_pos cc, if_pos (lg_sym.mp cc)]
      exact ih (i + 1) fm fx (vp_updL f i v) c _ _ (by omega) (by omega) (by omega) (by omega) (q2.told _) (y2.told _)
    · rw [if_neg cc, if_neg (fun e => cc (lg_sym.mp e))]
      exact ih (i + 1) fm fx (vp_updL f i v) (c + 1) _ _ (by omega) (by omega) (by omega) (by omega) (q2.told _) (y2.told _)
end TOLD
theorem st45 : St45 (InvA ActI) := by
  intro σ τ xs i h
  have same : InvA ActI σ τ := h
  obtain ⟨np, ne, bl, hP, hB, hM, ha⟩ := h
  have h24 := hP.1
  generalize xs (i + 1) = p1
  generalize xs (i + 2) = p2
  unfold W_check M_check
  rw [Bk_isReach_eq hB.2.2.1, M_isBy_eq hB.2.1, W_isYear_eq, M_isYear_eq]
  simp only [bind_so, b01_if]
  by_cases c1 : -1 ≤ p2 ∧ p2 ≤ nI ne
  case neg =>
    rw [if_neg c1, if_neg c1]
    exact ⟨_, _, _, rfl, rfl, same⟩
  rw [if_pos c1, if_pos c1]
  by_cases cy : 0 ≤ p1 ∧ p1 ≤ 99
  case neg =>
    rw [if_neg cy, if_neg cy]
    exact ⟨_, _, _, rfl, rfl, same⟩
  rw [if_pos cy, if_pos cy]
  obtain ⟨Y, hY, rfl⟩ := inRn (k := p1) (n := 99) ⟨i32_le.mp cy.1, i32_le.mp cy.2⟩ (by decide)
  obtain ⟨na, hh, od, cb⟩ := InvA.cb hP hB hM ha
  obtain ⟨K, σl, τl, τ1, q1, q2, ck, hx, sM, sX⟩ := cb.look c1
  have ht : τl.2.2.1 = σl.2.2 := by
    rw [sX.2.2, sM.2.2]
    exact hM.2.2.2.2.2.2.2.2.2.2.2.2.2.2.2.1
  obtain ⟨r, σ2, τ2, e1, e2, e3, e4⟩ := ck.check ht (Y := Y) (by omega) (3 * np) 0 100000 100000 σl τ1 (by omega) (by omega) (by omega) (Rm.refl σl) hx
  have e1' : M_check_L27 100000 σl (nI Y) 0 = some (r, σ2) := e1
  have e3' : W_check_L33 100000 τ1 (nI Y) 0 = some (r, τ2) := e3
  rw [q1, q2, bind_pq, bind_pq, e1', e3']
  exact ⟨_, _, _, rfl, rfl, same.same ActI_stb (sM.trans e2.same) (sX.trans e4.same)⟩
theorem st46 : St46 (InvA ActI) := by
  intro σ τ xs i h
  have same : InvA ActI σ τ := h
  obtain ⟨np, ne, bl, hP, hB, hM, ha⟩ := h
  have h24 := hP.1
  generalize xs (i + 1) = p1
  generalize xs (i + 2) = p2
  unfold W_judge M_judge
  rw [Bk_isReach_eq hB.2.2.1, M_isBy_eq hB.2.1, W_isYear_eq, M_isYear_eq]
  simp only [bind_so, b01_if]
  by_cases c1 : -1 ≤ p2 ∧ p2 ≤ nI ne
  case neg =>
    rw [if_neg c1, if_neg c1]
    exact ⟨_, _, _, rfl, rfl, same⟩
  rw [if_pos c1, if_pos c1]
  by_cases cy : 0 ≤ p1 ∧ p1 ≤ 99
  case neg =>
    rw [if_neg cy, if_neg cy]
    exact ⟨_, _, _, rfl, rfl, same⟩
  rw [if_pos cy, if_pos cy]
  obtain ⟨Y, hY, rfl⟩ := inRn (k := p1) (n := 99) ⟨i32_le.mp cy.1, i32_le.mp cy.2⟩ (by decide)
  obtain ⟨na, hh, od, cb⟩ := InvA.cb hP hB hM ha
  obtain ⟨K, σl, τl, τ1, q1, q2, ck, hx, sM, sX⟩ := cb.look c1
  have ht : τl.2.2.1 = σl.2.2 := by
    rw [sX.2.2, sM.2.2]
    exact hM.2.2.2.2.2.2.2.2.2.2.2.2.2.2.2.1
  have s0 : sJ σl σl.2.2 = σl := rfl
  have x0 : xJ τl σl.2.2 = τl := by rw [← ht]; rfl
  obtain ⟨f', r, σ2, τ2, e1, e2, e3, e4⟩ := ck.judge (Y := Y) (by omega) (3 * np) 0 100000 100000 σl.2.2 0 σl τ1 (by omega) (by omega) (by omega) (by omega) (by rw [s0]; exact Rm.refl σl) (by rw [x0]; exact hx)
  have e1' : M_judge_L30 100000 σl (nI Y) 0 0 = some (r, σ2) := e1
  have e3' : W_judge_L36 100000 τ1 (nI Y) 0 0 = some (r, τ2) := e3
  rw [q1, q2, bind_pq, bind_pq, e1', e3']
  have inv : InvA ActI σl τl := same.same ActI_stb sM sX
  have invJ : InvA ActI (sJ σl f') (xJ τl f') := by
    obtain ⟨np', ne', bl', P, B, ⟨m1, m2, m3, m4, m5, m6, m7, m8, m9, m10, m11, m12, m13, m14, m15, m16, m17, m18, m19⟩, A⟩ := inv
    exact ⟨np', ne', bl', P, B, ⟨m1, m2, m3, m4, m5, m6, m7, m8, m9, m10, m11, m12, m13, m14, m15, rfl, m17, m18, m19⟩, ActI_stb _ _ _ _ A rfl rfl rfl rfl rfl rfl rfl rfl rfl rfl rfl rfl rfl⟩
  exact ⟨_, _, _, rfl, rfl, invJ.same ActI_stb e2.same e4.same⟩
