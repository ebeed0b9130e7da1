/-! the plan -/
/-- the book but for the steps -/
def CP (σ : MS) (τ : XS) (np ne : Nat) (bl : List Nat) (na : Nat) (hh : Nat → Nat) (od : List Nat) : Prop :=
  PplI σ τ np ∧ BkI σ τ np ne bl ∧ MisI (nmM σ) (nmX τ) np ∧ ActsR σ τ na hh od ∧ σ.1 16 + σ.1 50 = nI na
/-- a view of both that rules alike -/
def CU (σ : MS) (τ : XS) (K np ne : Nat) (bl : List Nat) (na : Nat) (hh : Nat → Nat) (od : List Nat) : Prop := CP σ τ np ne bl na hh od ∧ Vw σ τ K np ∧ K ≤ ne
section PLAN
variable {σ σ' : MS} {τ τ' : XS} {K np ne na : Nat} {bl od : List Nat} {hh : Nat → Nat}
theorem CP.to (h : CP σ τ np ne bl na hh od) (hm : SameM σ σ') (hx : SameX τ τ') : CP σ' τ' np ne bl na hh od := by
  obtain ⟨P, B, M, A, h16⟩ := h
  refine ⟨P.same hm hx, B.same hm hx, M.same (nm_sameM hm) (nm_sameX hx), A.eqs (hm.2.1 17 (by decide) (by decide) (by decide)) (hm.2.1 18 (by decide) (by decide) (by decide)) (hm.2.1 19 (by decide) (by decide) (by decide)) (hm.2.1 20 (by decide) (by decide) (by decide)) (hm.2.1 21 (by decide) (by decide) (by decide)) (hm.2.1 22 (by decide) (by decide) (by decide)) (hm.2.1 23 (by decide) (by decide) (by decide)) (hm.2.1 24 (by decide) (by decide) (by decide)) (hm.2.1 25 (by decide) (by decide) (by decide)) (hx.1 302 (by decide) (by decide) (by decide)) (hx.2.1 303 (by decide) (by decide) (by decide) (by decide) (by decide) (by decide) (by decide)) (by rw [hx.2.2]), ?_⟩
  rw [hm.1 16 (by decide) (by decide) (by decide) (by decide), hm.1 50 (by decide) (by decide) (by decide) (by decide)]
  exact h16
theorem CP.set (h : CP σ τ np ne bl na hh od) (g : Nat → Int32) (s : Int32) : CP (sA σ 51 g) (xI τ 207 s) np ne bl na hh od := by
  obtain ⟨P, B, M, A, h16⟩ := h
  have e1 : nmM (sA σ 51 g) = nmM σ := by
    unfold nmM
    have : sA (sI (sA σ 51 g) 50 0) 51 (fun _ => 100) = sA (sI σ 50 0) 51 (fun _ => 100) := by
      have e : sI (sA σ 51 g) 50 0 = sA (sI σ 50 0) 51 g := rfl
      rw [e, sA_same]
    rw [this]
  have e2 : nmX (xI τ 207 s) = nmX τ := by
    unfold nmX xI xJ
    simp only [va_up_up]
  exact ⟨P, B, by rw [e1, e2]; exact M, A, h16⟩
theorem CB.cp (h : CB σ τ np ne bl na hh od) : CP σ τ np ne bl na hh od := ⟨h.1, h.2.1, h.2.2.1, h.2.2.2.1, h.2.2.2.2.1⟩
theorem CU.rr (h : CU σ τ K np ne bl na hh od) (hm : Rm σ σ') (hx : Rx τ τ') : CU σ' τ' K np ne bl na hh od := ⟨h.1.to hm.same hx.same, (h.2.1.rm hm).rx hx, h.2.2⟩
theorem CU.ruled (h : CU σ τ K np ne bl na hh od) {s p0 dn d : Int32} (hp : p0 = -1 ∨ ∃ p, p < np ∧ p0 = nI p) (hd : -1 ≤ dn.toInt ∧ dn.toInt ≤ 10000) : ∃ w σ1 t τ2, InR w 0 9999 ∧ M_ruled σ s p0 dn d = some (w, σ1) ∧ Rm σ σ1 ∧ Lw_nameFor τ p0 dn = some ((), t) ∧ Rx τ t ∧ Lw_ruling t s d = some (w, τ2) ∧ Rx τ τ2 := by
  obtain ⟨⟨P, B, M, A, h16⟩, vw, hK⟩ := h
  obtain ⟨f, g, n1, n2, n3⟩ := names_eq vw P B hK hp hd
  obtain ⟨r, w, σ1, τ1, g1, g2, g3, g4, g5, g6⟩ := rule_core (A.eqR (σ' := σ) (τ' := τ) f g) h16 (fun k hk => by rw [sA_get, xA_get]; exact n3 k hk) s d
  obtain ⟨σ2, u1, u2⟩ := ruled_of A.1 n1 g1 (w := w) (by
    rcases g6 with ⟨y1, y2, -⟩ | ⟨a, c, y1, y2, y3, -, -, y4⟩
    · exact Or.inl ⟨y1, y2⟩
    · exact Or.inr ⟨a, c, y1, y2, y3, y4⟩)
  exact ⟨w, σ2, _, τ1, g5, u1, (Rm.nm f).trans (g2.rm.trans u2.rm), n2, Rx.nm g, g3, (Rx.nm g).trans g4.rx⟩
/-- the least due with the steps, against the one without -/
def Rel (x m L : Int32) : Prop := (L = -5 ∧ m = -5) ∨ (InR L 0 9999 ∧ m = (L * x) / 100)
theorem least_loop (h : CU σ τ K np ne bl na hh od) (h207 : τ.1 207 = 0) (hx : InR (σ.2.1 51 0) 0 300) {d : Int32} (hd : DayOk d) : ∃ m L σ1 τ1, M_leastDues_L10 100000 σ d (-5) 0 = some (m, σ1) ∧ Rm σ σ1 ∧ Cn_leastDue τ d = some (L, τ1) ∧ Rx τ τ1 ∧ Rel (σ.2.1 51 0) m L := by
  have h24 : np ≤ 24 := h.1.1.1
  have hd1 : -1 ≤ d.toInt ∧ d.toInt ≤ 10000 := by unfold DayOk at hd; omega
  have key : ∀ (n i fu fu' : Nat) (σ' : MS) (τ' : XS) (m L : Int32), i + n = np → n < fu → n < fu' → Rm σ σ' → Rx τ τ' → Rel (σ.2.1 51 0) m L → ∃ m' L' σ1 τ1, M_leastDues_L10_r fu σ' d m (nI i) = some (m', σ1) ∧ Rm σ σ1 ∧ Cn_leastDue_L5_r fu' τ' d L (nI i) = some (L', τ1) ∧ Rx τ τ1 ∧ Rel (σ.2.1 51 0) m' L' := by
    intro n
    induction n with
    | zero =>
      intro i fu fu' σ' τ' m L hi hf hf' hm hx hr
      obtain ⟨f, rfl, -⟩ := fuel hf
      obtain ⟨f', rfl, -⟩ := fuel hf'
      have hi : i = np := by omega
      subst hi
      exact ⟨m, L, σ', τ', by rw [M_leastDues_L10_r, hm.1 1 (by decide) (by decide) (by decide), h.1.1.2.1, if_pos (Int32.le_refl _)], hm, by rw [Cn_leastDue_L5_r, hx.1 104 (by decide) (by decide) (by decide), h.1.1.2.2.1, if_pos (Int32.le_refl _)], hx, hr⟩
    | succ n ih =>
      intro i fu fu' σ' τ' m L hi hf hf' hm hx' hr
      obtain ⟨f, rfl, hf2⟩ := fuel hf
      obtain ⟨f', rfl, hf2'⟩ := fuel hf'
      have hin : i < np := by omega
      have nx := fun σ' τ' m L hm hx hr => ih (i + 1) f f' σ' τ' m L (by omega) (by omega) (by omega) hm hx hr
      have hU := h.rr hm hx'
      obtain ⟨v, s1, s2⟩ := hU.2.1.standing hin d
      rw [M_leastDues_L10_r, hm.1 1 (by decide) (by decide) (by decide), h.1.1.2.1, if_neg (nI_ge (by omega) (by omega)), Cn_leastDue_L5_r, hx'.1 104 (by decide) (by decide) (by decide), h.1.1.2.2.1, if_neg (nI_ge (by omega) (by omega)), s1, bind_so]
      unfold M_leastDues_J54 M_leastDues_J53 M_leastDues_J47 Cn_leastDue_J54 Cn_leastDue_J51
      unfold M_leastDues_J53 M_leastDues_J54 Cn_leastDue_J54
      rw [nI_1]
      rcases s2 with ⟨rfl, m1, -⟩ | ⟨rfl, m1, -⟩ | ⟨rfl, m1, -⟩
      · rw [m1, bind_so, if_pos rfl, if_neg (show ¬ (0 : Int32) = 1 by decide)]
        exact nx σ' τ' m L hm hx' hr
      · rw [m1, bind_so, if_neg n10, if_pos (show (1 : Int32) = 1 from rfl)]
        obtain ⟨w, σ1, t, τ2, w0, w1, w2, w3, w4, w5, w6⟩ := hU.ruled (s := 0) (p0 := nI i) (dn := d) (d := d) (Or.inr ⟨i, hin, rfl⟩) hd1
        have dM : M_dueOf σ' (nI i) d = some ((w * σ.2.1 51 0) / 100, σ1) := by
          unfold M_dueOf M_stepped
          rw [m1, bind_so, if_neg n10, w1, bind_pq, show (0 : Int32) = nI 0 from rfl, rd_nI (by decide) (by decide), w2.2.1 51 (by decide), hm.2.1 51 (by decide), bind_so]
        have dX : Cn_comesTo τ' 0 (nI i) d = some (w, τ2) := by
          unfold Cn_comesTo Tr_stepped
          rw [w3, bind_pq, w5, bind_pq, w4.1 207 (by decide) (by decide) (by decide), hx'.1 207 (by decide) (by decide) (by decide), h207, if_pos rfl, bind_so]
        rw [dM, dX, bind_pq, bind_pq]
        have hm1 := hm.trans w2
        have hx1 := hx'.trans w6
        rcases hr with ⟨rfl, rfl⟩ | ⟨l0, rfl⟩
        · rw [if_pos rfl, if_pos (by decide)]
          exact nx σ1 τ2 _ _ hm1 hx1 (Or.inr ⟨w0, rfl⟩)
        · have mL := (mulH l0 hx).2
          have nm5 : ¬ (L * σ.2.1 51 0) / 100 = -5 := fun e => by rw [e] at mL; exact absurd mL.1 (by decide)
          have nL : ¬ L < 0 := by rw [i32_lt, show (0 : Int32).toInt = 0 from rfl]; have := l0.1; omega
          rw [if_neg nm5, if_neg nL]
          by_cases c : L ≤ w
          · rw [if_pos c, if_pos (mulH_mono l0 w0 hx c)]
            exact nx σ1 τ2 _ _ hm1 hx1 (Or.inr ⟨l0, rfl⟩)
          · rw [if_neg c]
            have c' : w ≤ L := by rw [i32_le] at c ⊢; omega
            by_cases c2 : (L * σ.2.1 51 0) / 100 ≤ (w * σ.2.1 51 0) / 100
            · rw [if_pos c2]
              have e : (L * σ.2.1 51 0) / 100 = (w * σ.2.1 51 0) / 100 := by
                have := mulH_mono w0 l0 hx c'
                rw [i32_le] at c2 this
                exact i32_eq.mpr (by omega)
              exact nx σ1 τ2 _ _ hm1 hx1 (Or.inr ⟨w0, e⟩)
            · rw [if_neg c2]
              exact nx σ1 τ2 _ _ hm1 hx1 (Or.inr ⟨w0, rfl⟩)
      · rw [m1, bind_so, if_pos rfl, if_neg (show ¬ (2 : Int32) = 1 by decide)]
        exact nx σ' τ' m L hm hx' hr
  obtain ⟨m', L', σ1, τ1, a1, a2, a3, a4, a5⟩ := key np 0 100000 100000 σ τ (-5) (-5) (by omega) (by omega) (by omega) (Rm.refl σ) (Rx.refl τ) (Or.inl ⟨rfl, rfl⟩)
  exact ⟨m', L', σ1, τ1, a1, a2, a3, a4, a5⟩
/-- by all entries, with what the class has read -/
theorem CB.look2 (h : CB σ τ np ne bl na hh od) : ∃ K σl τr f τ1, M_looks σ (-1) = some ((), σl) ∧ Lv_readBook τ (-1) = some ((), τr) ∧ Cn_look τ (-1) = some ((), τ1) ∧ CK σl (xA τr 206 f) K np ne bl na hh od ∧ Rx (xA τr 206 f) τ1 ∧ SameM σ σl ∧ SameX τ τr := by
  obtain ⟨K, σl, τl, q1, q2, cv, sM, sX⟩ := h.read (e := -1) (reach_m1 h.2.1.1)
  obtain ⟨f, τ1, k1, k2, k3⟩ := markKept_spec cv
  refine ⟨K, σl, τl, f, τ1, q1, q2, ?_, ⟨cv.kp f, by rw [xA_get]; exact k3⟩, k2, sM, sX⟩
  unfold Cn_look
  rw [q2, bind_pq, k1, bind_pq]
/-- the reference's least due at any set, against the class's -/
theorem least_run (h : CP σ τ np ne bl na hh od) {τr τ2 : XS} {f : Nat → Int32} (hread : Lv_readBook τ (-1) = some ((), τr)) (hx2 : Rx (xA τr 206 f) τ2) (h207 : τ2.1 207 = 0) (hx : InR (σ.2.1 51 0) 0 300) {d : Int32} (hd : DayOk d) : ∃ m L σ1 τ1, M_leastDues σ d = some (m, σ1) ∧ SameM σ σ1 ∧ Cn_leastDue τ2 d = some (L, τ1) ∧ Rx τ2 τ1 ∧ Rel (σ.2.1 51 0) m L := by
  obtain ⟨s, dd, d', a, t, l, q1, q2, q3, q4⟩ := view_of h.1 h.2.1 (K := ne) (Nat.le_refl _) (e := -1) (Or.inl ⟨rfl, rfl⟩)
  rw [hread] at q2
  have e := (Prod.mk.inj (Option.some.inj q2)).2
  have sX : SameX τ τr := by rw [e]; exact SameX.look
  have sX2 : SameX τ τ2 := SameX.trans (b := xA τr 206 f) (sX.trans (show SameX τr (xA τr 206 f) from ⟨fun _ _ _ _ => rfl, fun j j1 _ _ _ _ _ _ => xA_ne j1, rfl⟩)) hx2.same
  have vw : Vw (lookM σ ne s dd) τ2 ne np := by
    rw [← e] at q4
    have q5 : Vw (lookM σ ne s dd) (xA τr 206 f) ne np := q4
    exact q5.rx hx2
  have cu : CU (lookM σ ne s dd) τ2 ne np ne bl na hh od := ⟨h.to SameM.look sX2, vw, Nat.le_refl _⟩
  have e51 : (lookM σ ne s dd).2.1 51 = σ.2.1 51 := lookM_2 (by decide)
  obtain ⟨m, L, σ1, τ1, a1, a2, a3, a4, a5⟩ := least_loop cu h207 (by rw [e51]; exact hx) hd
  rw [e51] at a5
  refine ⟨m, L, σ1, τ1, ?_, SameM.look.trans a2.same, a3, a4, a5⟩
  unfold M_leastDues
  rw [q1, bind_pq]
  exact a1
/-- the rows are tried under a set: both find it good or not -/
theorem rows_loop (nr : Nat) (h4 : nr ≤ 4) {Y n : Nat} (hY : Y < 100) (hn : n ≤ 20) (C : Int64) (kM : MS → Int32 → Int32 → Int32 → Int64 → Int32 → Int32 → Int32 → Option (Int32 × MS)) (kX : XS → Int32 → Int32 → Int32 → Int64 → Int32 → Int32 → Int32 → Option (Int32 × XS)) (w bM lM S LX bX : Int32) : ∀ (m k fu fu' : Nat) (σ : MS) (τ : XS), CB σ τ np ne bl na hh od → σ.1 35 = nI nr → τ.1 901 = nI nr → k + m = nr → m < fu → m < fu' → ∃ g σ1 τ1, (g = 0 ∨ g = 1) ∧ SameM σ σ1 ∧ SameX τ τ1 ∧ M_plan_L86_r kM fu σ (nI Y) (nI n) w C bM lM S 1 (nI k) = M_plan_J128 kM σ1 (nI Y) (nI n) w C bM lM S g ∧ W_plan_L140_r kX fu' τ (nI Y) (nI n) w C LX bX S 1 (nI k) = W_plan_J193 kX τ1 (nI Y) (nI n) w C LX bX S g := by
  intro m
  induction m with
  | zero =>
    intro k fu fu' σ τ h h35 h901 hk hf hf'
    obtain ⟨f, rfl, -⟩ := fuel hf
    obtain ⟨f', rfl, -⟩ := fuel hf'
    have hk : k = nr := by omega
    subst hk
    exact ⟨1, σ, τ, Or.inr rfl, SameM.rfl, SameX.rfl, by rw [M_plan_L86_r, h35, if_pos (Int32.le_refl _)], by rw [W_plan_L140_r, if_neg n10, h901, if_pos (Int32.le_refl _)]⟩
  | succ m ih =>
    intro k fu fu' σ τ h h35 h901 hk hf hf'
    obtain ⟨f, rfl, hf2⟩ := fuel hf
    obtain ⟨f', rfl, hf2'⟩ := fuel hf'
    obtain ⟨r, σ1, τ0, τ1, e1, e2, e3, e4, e5, e6⟩ := h.shortRow h4 h901 (row := nI k) (Or.inr ⟨k, by omega, rfl⟩) hY hn C
    rw [M_plan_L86_r, h35, if_neg (nI_ge (by omega) (by omega)), if_neg n10, e1, bind_pq, W_plan_L140_r, if_neg n10, h901, if_neg (nI_ge (by omega) (by omega)), e3, bind_pq, e4, bind_pq]
    unfold M_plan_J120 W_plan_J185
    rw [nI_1]
    rcases e6 with rfl | ⟨y, hy, rfl⟩
    · rw [if_pos rfl, if_neg (by decide)]
      obtain ⟨g, σ2, τ2, g1, g2, g3, g4, g5⟩ := ih (k + 1) f f' σ1 τ1 (h.to e2 e5) ((e2.1 35 (by decide) (by decide) (by decide) (by decide)).trans h35) ((e5.1 901 (by decide) (by decide) (by decide)).trans h901) (by omega) (by omega) (by omega)
      exact ⟨g, σ2, τ2, g1, e2.trans g2, e5.trans g3, g4, g5⟩
    · rw [if_neg (fun e => by
        have := i32_eq.mp e
        rw [nI_i (by omega), show (-5 : Int32).toInt = -5 from rfl] at this
        omega), if_pos (nI_le0 (by omega))]
      refine ⟨0, σ1, τ1, Or.inl rfl, e2, e5, ?_, ?_⟩
      · obtain ⟨fm, rfl⟩ : ∃ fm, f = fm + 1 := ⟨f - 1, by omega⟩
        rw [M_plan_L86_r, if_pos rfl]
        split <;> rfl
      · obtain ⟨fm, rfl⟩ : ∃ fm, f' = fm + 1 := ⟨f' - 1, by omega⟩
        rw [W_plan_L140_r, if_pos rfl]
/-- what the best so far stands for on both sides -/
def Best (σ : MS) (ns : Nat) (sn : Nat → Nat) (L bM lM bX : Int32) : Prop := (bM = -5 ∧ lM = -5 ∧ bX = -5) ∨ ∃ B, B < 2 ^ ns ∧ okF sn B ns = true ∧ bM = nI B ∧ bX = nI B ∧ Rel (hsF (σ.2.1 40) (σ.2.1 41) B 0 ns) lM L
theorem Best.upd {L bM lM bX : Int32} {ns : Nat} {sn : Nat → Nat} {B : Nat} (hB : B < 2 ^ ns) (ho : okF sn B ns = true) (hr : Rel (hsF (σ.2.1 40) (σ.2.1 41) B 0 ns) lM L) (e1 : bM = nI B) (e2 : bX = nI B) : Best σ ns sn L bM lM bX := Or.inr ⟨B, hB, ho, e1, e2, hr⟩
theorem pow16 {ns S : Nat} (h4 : ns ≤ 4) (h : S < 2 ^ ns) : S < 16 := by
  rcases (show ns = 0 ∨ ns = 1 ∨ ns = 2 ∨ ns = 3 ∨ ns = 4 by omega) with e | e | e | e | e <;> rw [e] at h <;> omega
theorem shl16 {ns : Nat} (h4 : ns ≤ 4) : (1 : Int32) <<< (nI ns &&& 31) = nI (2 ^ ns) := by
  rcases (show ns = 0 ∨ ns = 1 ∨ ns = 2 ∨ ns = 3 ∨ ns = 4 by omega) with e | e | e | e | e <;> rw [e] <;> decide
/-- the class's question: is it better -/
theorem better_X (τ : XS) {ns : Nat} {sn : Nat → Nat} (hs : Sts σ τ ns sn) {S B : Nat} (hS : S < 16) (hB : B < 16) (oS : okF sn S ns = true) (oB : okF sn B ns = true) {L : Int32} (hL : L = -5 ∨ InR L 0 9999) {mS mB : Int32} (rS : Rel (hsF (σ.2.1 40) (σ.2.1 41) S 0 ns) mS L) (rB : Rel (hsF (σ.2.1 40) (σ.2.1 41) B 0 ns) mB L) : Tr_isBetter τ (nI S) (nI B) L = some (if mS < mB then 1 else if mS = mB then (if nI (cnt10 B) ≤ nI (cnt10 S) then 0 else 1) else 0) := by
  unfold Tr_isBetter
  have mx : InR (mxI 0 L) 0 9999 := by
    unfold mxI
    rcases hL with e | e
    · rw [e]; exact ⟨by decide, by decide⟩
    · by_cases c : (0 : Int32) < L
      · rw [if_pos c]; exact e
      · rw [if_neg c]; exact ⟨by decide, by decide⟩
  rw [stepped_X hs hS oS 0 mx, bind_so, stepped_X hs hB oB 0 mx, bind_so, show Jd_bitCount τ (nI S) = some (nI (cnt10 S)) from bc10 S (by omega), show Jd_bitCount τ (nI B) = some (nI (cnt10 B)) from bc10 B (by omega), bind_so, bind_so]
  rcases hL with e | e
  · have e0 : mxI 0 L = 0 := by rw [e]; rfl
    have mS5 : mS = -5 := by
      rcases rS with ⟨-, g⟩ | ⟨g, -⟩
      · exact g
      · rw [e] at g; exact absurd g.1 (by decide)
    have mB5 : mB = -5 := by
      rcases rB with ⟨-, g⟩ | ⟨g, -⟩
      · exact g
      · rw [e] at g; exact absurd g.1 (by decide)
    have z : ∀ x : Int32, ((0 : Int32) * x) / 100 = 0 := fun x => by rw [Int32.zero_mul]; rfl
    rw [e0, z, z, if_pos rfl, mS5, mB5, if_neg (show ¬ (-5 : Int32) < -5 by decide), if_pos (show (-5 : Int32) = -5 from rfl)]
    by_cases c : nI (cnt10 B) ≤ nI (cnt10 S)
    · rw [if_pos c, if_pos c]
    · rw [if_neg c, if_neg c]
  · have nL5 : ¬ L = -5 := fun g => by rw [g] at e; exact absurd e.1 (by decide)
    have eL : mxI 0 L = L := by
      unfold mxI
      by_cases c : (0 : Int32) < L
      · rw [if_pos c]
      · rw [if_neg c]
        rw [i32_lt, show (0 : Int32).toInt = 0 from rfl] at c
        have := e.1
        exact i32_eq.mpr (by rw [show (0 : Int32).toInt = 0 from rfl]; omega)
    have mSe := (rS.resolve_left fun g => nL5 g.1).2
    have mBe := (rB.resolve_left fun g => nL5 g.1).2
    rw [eL, ← mSe, ← mBe]
    by_cases c : mS = mB
    · have nlt : ¬ mS < mB := by rw [c, i32_lt]; omega
      rw [if_pos c, if_neg nlt, if_pos c]
      by_cases c2 : nI (cnt10 B) ≤ nI (cnt10 S)
      · rw [if_pos c2, if_pos c2]
      · rw [if_neg c2, if_neg c2]
    · rw [if_neg c]
      by_cases c2 : mB ≤ mS
      · rw [if_pos c2, if_neg (by rw [i32_lt]; rw [i32_le] at c2; omega), if_neg c]
      · rw [if_neg c2, if_pos (by rw [i32_lt]; rw [i32_le] at c2; omega)]
theorem J128_eq (kM : MS → Int32 → Int32 → Int32 → Int64 → Int32 → Int32 → Int32 → Option (Int32 × MS)) {σ1 σ2 : MS} {Y n : Nat} {w bM lM g m : Int32} {C : Int64} {S : Nat} (e : M_leastDues σ1 (nI (100 * Y + 99)) = some (m, σ2)) : M_plan_J128 kM σ1 (nI Y) (nI n) w C bM lM (nI S) g = if g = 0 then kM σ2 (nI Y) (nI n) w C bM lM (nI (S + 1)) else if bM = -5 then kM σ2 (nI Y) (nI n) w C (nI S) m (nI (S + 1)) else if m < lM then kM σ2 (nI Y) (nI n) w C (nI S) m (nI (S + 1)) else if m = lM then (M_many σ2 (nI S)).bind fun r10 => ((M_many σ2 bM).bind fun r11 => (if r11 ≤ r10 then kM σ2 (nI Y) (nI n) w C bM lM (nI (S + 1)) else kM σ2 (nI Y) (nI n) w C (nI S) m (nI (S + 1)))) else kM σ2 (nI Y) (nI n) w C bM lM (nI (S + 1)) := by
  unfold M_plan_J128 M_plan_J180 M_plan_J188
  rw [yd', show (99 : Int32) = nI 99 from rfl, nI_add, e, bind_pq, nI_1]
/-- one set and the next, to the end -/
theorem plan_loop {σ0 : MS} {τ0 τr τ2 : XS} {f : Nat → Int32} (h : CP σ0 τ0 np ne bl na hh od) {ns nr : Nat} {sn : Nat → Nat} (hs : Sts σ0 τ0 ns sn) (h4 : nr ≤ 4) (h35 : σ0.1 35 = nI nr) (h901 : τ0.1 901 = nI nr) (hread : Lv_readBook τ0 (-1) = some ((), τr)) (hx2 : Rx (xA τr 206 f) τ2) (h207 : τ2.1 207 = 0) {Y n : Nat} (hY : Y < 100) (hn : n ≤ 20) (C : Int64) {L : Int32} {τ3 : XS} (hL : Cn_leastDue τ2 (nI (100 * Y + 99)) = some (L, τ3)) (w : Int32) : ∀ (m S fu fu' : Nat) (σ' : MS) (τ' : XS) (g0 : Nat → Int32) (s0 bM lM bX : Int32), S + m = 2 ^ ns → m < fu → m < fu' → SameM (sA σ0 51 g0) σ' → SameX (xI τ0 207 s0) τ' → Best σ0 ns sn L bM lM bX → ∃ r σ1 τ1 g1, M_plan_L54_r fu σ' (nI Y) (nI n) w C bM lM (nI S) = some (r, σ1) ∧ SameM (sA σ0 51 g1) σ1 ∧ (∀ k, k < 4 → g1 k = 100) ∧ W_plan_L75_r fu' τ' (nI Y) (nI n) w C L bX (nI S) = some (r, τ1) ∧ SameX (xI τ0 207 0) τ1 := by
  have hd : DayOk (nI (100 * Y + 99)) := by unfold DayOk; rw [nI_i (by omega)]; omega
  have ns4 := hs.1
  have p16 : 2 ^ ns ≤ 16 := by
    have := hs.1
    rcases (show ns = 0 ∨ ns = 1 ∨ ns = 2 ∨ ns = 3 ∨ ns = 4 by omega) with e | e | e | e | e <;> rw [e] <;> decide
  -- L is one of these
  have hL0 : ∀ {x mm : Int32}, Rel x mm L → (L = -5 ∨ InR L 0 9999) := fun q => q.elim (fun q => Or.inl q.1) fun q => Or.inr q.1
  -- the steps after other sets
  have stsAt : ∀ (σ' : MS) (τ' : XS) (g0 : Nat → Int32) (s0 : Int32), SameM (sA σ0 51 g0) σ' → SameX (xI τ0 207 s0) τ' → Sts σ' τ' ns sn ∧ σ'.2.1 40 = σ0.2.1 40 ∧ σ'.2.1 41 = σ0.2.1 41 ∧ σ'.1 39 = nI ns ∧ τ'.1 905 = nI ns := by
    intro σ' τ' g0 s0 hm hx
    have e40 : σ'.2.1 40 = σ0.2.1 40 := (hm.2.1 40 (by decide) (by decide) (by decide)).trans (sA_ne (by decide))
    have e41 : σ'.2.1 41 = σ0.2.1 41 := (hm.2.1 41 (by decide) (by decide) (by decide)).trans (sA_ne (by decide))
    have e39 : σ'.1 39 = nI ns := (hm.1 39 (by decide) (by decide) (by decide) (by decide)).trans hs.2.1
    have e905 : τ'.1 905 = nI ns := (hx.1 905 (by decide) (by decide) (by decide)).trans ((xI_ne (by decide)).trans hs.2.2.1)
    have e906 : τ'.2.1 906 = τ0.2.1 906 := hx.2.1 906 (by decide) (by decide) (by decide) (by decide) (by decide) (by decide) (by decide)
    have e907 : τ'.2.1 907 = τ0.2.1 907 := hx.2.1 907 (by decide) (by decide) (by decide) (by decide) (by decide) (by decide) (by decide)
    refine ⟨⟨hs.1, e39, e905, by rw [e906, e40]; exact hs.2.2.2.1, by rw [e907, e41]; exact hs.2.2.2.2.1, by rw [e40, e41]; exact hs.2.2.2.2.2⟩, e40, e41, e39, e905⟩
  intro m
  induction m with
  | zero =>
    intro S fu fu' σ' τ' g0 s0 bM lM bX hS hf hf' hm hx hb
    obtain ⟨fm, rfl, -⟩ := fuel hf
    obtain ⟨fx, rfl, -⟩ := fuel hf'
    obtain ⟨st, e40, e41, e39, e905⟩ := stsAt σ' τ' g0 s0 hm hx
    have hS' : S = 2 ^ ns := by omega
    subst hS'
    obtain ⟨g1, w1, w2⟩ := walks_M st (S := 0) (by decide)
    have g100 : ∀ k, k < 4 → g1 k = 100 := fun k hk => by rw [w2 k hk, hsF_none ns fun k _ q => by have := q.1; simp at this]
    have sm : SameM (sA σ0 51 g1) (sA σ' 51 g1) := ⟨fun j a b c d => (hm.1 j a b c d).trans rfl, fun j a b c => by
      by_cases q : j = 51
      · rw [q, sA_get, sA_get]
      · rw [sA_ne q, sA_ne q, hm.2.1 j a b c, sA_ne q], hm.2.2⟩
    have sx : SameX (xI τ0 207 0) (xI τ' 207 0) := ⟨fun j a b c => by
      by_cases q : j = 207
      · rw [q, xI_get, xI_get]
      · rw [xI_ne q, xI_ne q, hx.1 j a b c, xI_ne q], fun j a b c d e f' g' => hx.2.1 j a b c d e f' g', hx.2.2⟩
    have w1' : M_walks σ' 0 = some ((), sA σ' 51 g1) := w1
    rw [M_plan_L54_r, e39, shl16 hs.1, if_pos (Int32.le_refl _), w1', bind_pq, W_plan_L75_r, e905, shl16 hs.1, if_pos (Int32.le_refl _)]
    rcases hb with ⟨rfl, rfl, rfl⟩ | ⟨B, hB, oB, rfl, rfl, rB⟩
    · rw [if_pos (show (-5 : Int32) < 0 by decide)]
      refine ⟨-5, sA σ' 51 g1, xI τ' 207 0, g1, ?_, sm, g100, rfl, sx⟩
      split <;> rfl
    · have hB16 := pow16 hs.1 hB
      rw [if_neg (nI_not_lt0 (by omega))]
      by_cases cw : w = 0
      · rw [if_pos cw, if_pos cw]
        exact ⟨_, _, _, g1, rfl, sm, g100, rfl, sx⟩
      rw [if_neg cw, if_neg cw]
      rcases id rB with ⟨e5, em⟩ | ⟨l0, em⟩
      · rw [e5, if_neg (by decide), em]
        exact ⟨_, _, _, g1, rfl, sm, g100, rfl, sx⟩
      · have nL : 0 ≤ L := i32_le.mpr l0.1
        have st' : Sts σ0 (xI τ' 207 0) ns sn := ⟨hs.1, hs.2.1, (xI_ne (show (905 : Nat) ≠ 207 by decide)).trans e905, by
          show τ'.2.1 906 = _
          rw [st.2.2.2.1, e40], by
          show τ'.2.1 907 = _
          rw [st.2.2.2.2.1, e41], hs.2.2.2.2.2⟩
        rw [if_pos nL, stepped_X st' hB16 oB 0 l0, bind_so, ← em]
        exact ⟨_, _, _, g1, rfl, sm, g100, rfl, sx⟩
  | succ m ih =>
    intro S fu fu' σ' τ' g0 s0 bM lM bX hS hf hf' hm hx hb
    obtain ⟨fm, rfl, hf2⟩ := fuel hf
    obtain ⟨fx, rfl, hf2'⟩ := fuel hf'
    obtain ⟨st, e40, e41, e39, e905⟩ := stsAt σ' τ' g0 s0 hm hx
    have hS16 : S < 16 := by omega
    have nx := fun σ' τ' g0 s0 bM lM bX hm hx hb => ih (S + 1) fm fx σ' τ' g0 s0 bM lM bX (by omega) (by omega) (by omega) hm hx hb
    have nge : ¬ nI (2 ^ ns) ≤ nI S := nI_ge (by omega) (by omega)
    rw [M_plan_L54_r, e39, shl16 hs.1, if_neg nge, isSet_M st hS16, bind_so, W_plan_L75_r, e905, shl16 hs.1, if_neg nge, isSet_X st hS16, bind_so]
    by_cases oS : okF sn S ns = true
    case neg =>
      rw [if_neg oS, if_pos rfl, if_pos rfl]
      unfold M_plan_J188 W_plan_J202
      rw [nI_1]
      exact nx σ' τ' g0 s0 bM lM bX hm hx hb
    rw [if_pos oS, if_neg n10, if_neg n10]
    obtain ⟨g1, w1, w2⟩ := walks_M st hS16
    rw [w1, bind_pq]
    -- both sides under the set
    have cbS : CB (sA σ' 51 g1) (xI τ' 207 (nI S)) np ne bl na hh od := by
      obtain ⟨P, B, M, A, h16⟩ := ((h.set g0 s0).to hm hx).set g1 (nI S)
      exact ⟨P, B, M, A, h16, stepV_of st hS16 oS w2⟩
    have h35' : (sA σ' 51 g1).1 35 = nI nr := (hm.1 35 (by decide) (by decide) (by decide) (by decide)).trans h35
    have h901' : (xI τ' 207 (nI S)).1 901 = nI nr := (xI_ne (by decide)).trans ((hx.1 901 (by decide) (by decide) (by decide)).trans ((xI_ne (by decide)).trans h901))
    obtain ⟨gd, σ1, τ1, gd01, sm1, sx1, eM, eX⟩ := rows_loop nr h4 hY hn C (M_plan_L54_r fm) (W_plan_L75_r fx) w bM lM (nI S) L bX nr 0 100000 100000 (sA σ' 51 g1) (xI τ' 207 (nI S)) cbS h35' h901' (by omega) (by omega) (by omega)
    have eM' : M_plan_L86 (M_plan_L54_r fm) 100000 (sA σ' 51 g1) (nI Y) (nI n) w C bM lM (nI S) 1 0 = _ := eM
    have eX' : W_plan_J125 (W_plan_L75_r fx) τ' (nI Y) (nI n) w C L bX (nI S) = _ := eX
    have smS : SameM (sA σ0 51 g1) (sA σ' 51 g1) := ⟨fun j a b c d => (hm.1 j a b c d).trans rfl, fun j a b c => by
      by_cases q : j = 51
      · rw [q, sA_get, sA_get]
      · rw [sA_ne q, sA_ne q, hm.2.1 j a b c, sA_ne q], hm.2.2⟩
    have sxS : SameX (xI τ0 207 (nI S)) (xI τ' 207 (nI S)) := ⟨fun j a b c => by
      by_cases q : j = 207
      · rw [q, xI_get, xI_get]
      · rw [xI_ne q, xI_ne q, hx.1 j a b c, xI_ne q], fun j a b c d e f' g' => hx.2.1 j a b c d e f' g', hx.2.2⟩
    have sm2 : SameM (sA σ0 51 g1) σ1 := smS.trans sm1
    have sx2 : SameX (xI τ0 207 (nI S)) τ1 := sxS.trans sx1
    -- the least due under the set
    have g10 : g1 0 = hsF (σ0.2.1 40) (σ0.2.1 41) S 0 ns := by rw [w2 0 (by decide), e40, e41]; rfl
    have e51 : σ1.2.1 51 = g1 := (sm1.2.1 51 (by decide) (by decide) (by decide)).trans sA_get
    have cpS : CP σ1 τ0 np ne bl na hh od := by
      have : CP (sA σ0 51 g1) τ0 np ne bl na hh od := by
        obtain ⟨P, B, M, A, h16⟩ := h.set g1 0
        obtain ⟨P0, B0, M0, A0, h160⟩ := h
        have e1 : nmM (sA σ0 51 g1) = nmM σ0 := by
          unfold nmM
          have : sA (sI (sA σ0 51 g1) 50 0) 51 (fun _ => 100) = sA (sI σ0 50 0) 51 (fun _ => 100) := by
            have e : sI (sA σ0 51 g1) 50 0 = sA (sI σ0 50 0) 51 g1 := rfl
            rw [e, sA_same]
          rw [this]
        exact ⟨P0, B0, by rw [e1]; exact M0, A0, h160⟩
      exact this.to sm2 SameX.rfl
    obtain ⟨mS, L', σ2, τ2', l1, l2, l3, l4, l5⟩ := least_run cpS hread hx2 h207 (d := nI (100 * Y + 99)) (by rw [e51, g10]; exact hsF_R ns fun k hk => (hs.2.2.2.2.2 k hk).2.2) hd
    rw [hL] at l3
    have eL := (Prod.mk.inj (Option.some.inj l3)).1
    rw [← eL, e51, g10] at l5
    have sm3 : SameM (sA σ0 51 g1) σ2 := sm2.trans l2
    have hLr := hL0 l5
    rw [eM', J128_eq (M_plan_L54_r fm) l1]
    have hS2 : S < 2 ^ ns := by omega
    rcases id hb with ⟨rfl, rfl, rfl⟩ | ⟨B, hB, oB, rfl, rfl, rB⟩
    · rw [if_pos (show (-5 : Int32) < 0 by decide), eX']
      unfold W_plan_J193 W_plan_J202
      rw [nI_1]
      rcases gd01 with rfl | rfl
      · rw [if_pos rfl, if_pos rfl]
        exact nx σ2 τ1 g1 (nI S) _ _ _ sm3 sx2 hb
      · rw [if_neg n10, if_neg n10, if_pos rfl]
        exact nx σ2 τ1 g1 (nI S) _ _ _ sm3 sx2 (Best.upd hS2 oS l5 rfl rfl)
    have hB16 := pow16 hs.1 hB
    have nb5 : ¬ nI B = -5 := fun e => by
      have := i32_eq.mp e
      rw [nI_i (by omega), show (-5 : Int32).toInt = -5 from rfl] at this
      omega
    have st0 : Sts σ0 τ' ns sn := ⟨hs.1, hs.2.1, e905, by rw [st.2.2.2.1, e40], by rw [st.2.2.2.2.1, e41], hs.2.2.2.2.2⟩
    rw [if_neg (nI_not_lt0 (show B < 2 ^ 31 by omega)), better_X τ' st0 hS16 hB16 oS oB hLr l5 rB, bind_so, if_neg nb5, M_many_eq σ2 hS16, M_many_eq σ2 hB16, bind_so, bind_so]
    have keepM : ∀ τ'' s'', SameX (xI τ0 207 s'') τ'' → ∃ r σ1 τ1 g1, M_plan_L54_r fm σ2 (nI Y) (nI n) w C (nI B) lM (nI (S + 1)) = some (r, σ1) ∧ SameM (sA σ0 51 g1) σ1 ∧ (∀ k, k < 4 → g1 k = 100) ∧ W_plan_L75_r fx τ'' (nI Y) (nI n) w C L (nI B) (nI (S + 1)) = some (r, τ1) ∧ SameX (xI τ0 207 0) τ1 := fun τ'' s'' hx'' => nx σ2 τ'' g1 s'' _ _ _ sm3 hx'' hb
    -- not better: the class passes, the reference keeps
    have pass : ∀ (x : Int32), (x = 0) → (if x = 0 then W_plan_J202 (W_plan_L75_r fx) τ' (nI Y) (nI n) w C L (nI B) (nI S) else W_plan_J125 (W_plan_L75_r fx) τ' (nI Y) (nI n) w C L (nI B) (nI S)) = W_plan_L75_r fx τ' (nI Y) (nI n) w C L (nI B) (nI (S + 1)) := fun x e => by
      rw [if_pos e]
      unfold W_plan_J202
      rw [nI_1]
    have takeX : ∀ (x : Int32), ¬ (x = 0) → (if x = 0 then W_plan_J202 (W_plan_L75_r fx) τ' (nI Y) (nI n) w C L (nI B) (nI S) else W_plan_J125 (W_plan_L75_r fx) τ' (nI Y) (nI n) w C L (nI B) (nI S)) = if gd = 0 then W_plan_L75_r fx τ1 (nI Y) (nI n) w C L (nI B) (nI (S + 1)) else W_plan_L75_r fx τ1 (nI Y) (nI n) w C L (nI S) (nI (S + 1)) := fun x e => by
      rw [if_neg e, eX']
      unfold W_plan_J193 W_plan_J202
      rw [nI_1]
    have upd : gd = 1 → ∃ r σ1 τ1' g1, M_plan_L54_r fm σ2 (nI Y) (nI n) w C (nI S) mS (nI (S + 1)) = some (r, σ1) ∧ SameM (sA σ0 51 g1) σ1 ∧ (∀ k, k < 4 → g1 k = 100) ∧ W_plan_L75_r fx τ1 (nI Y) (nI n) w C L (nI S) (nI (S + 1)) = some (r, τ1') ∧ SameX (xI τ0 207 0) τ1' := fun _ => nx σ2 τ1 g1 (nI S) _ _ _ sm3 sx2 (Best.upd hS2 oS l5 rfl rfl)
    by_cases c1 : mS < lM
    · rw [if_pos c1, if_pos c1, takeX 1 n10]
      rcases gd01 with rfl | rfl
      · rw [if_pos rfl, if_pos rfl]
        exact keepM τ1 (nI S) sx2
      · rw [if_neg n10, if_neg n10]
        exact upd rfl
    rw [if_neg c1, if_neg c1]
    by_cases c2 : mS = lM
    · rw [if_pos c2, if_pos c2]
      by_cases c3 : nI (cnt10 B) ≤ nI (cnt10 S)
      · rw [if_pos c3, if_pos c3, pass 0 rfl]
        rcases gd01 with rfl | rfl
        · rw [if_pos rfl]; exact keepM τ' s0 hx
        · rw [if_neg n10]; exact keepM τ' s0 hx
      · rw [if_neg c3, if_neg c3, takeX 1 n10]
        rcases gd01 with rfl | rfl
        · rw [if_pos rfl, if_pos rfl]
          exact keepM τ1 (nI S) sx2
        · rw [if_neg n10, if_neg n10]
          exact upd rfl
    · rw [if_neg c2, if_neg c2, pass 0 rfl]
      rcases gd01 with rfl | rfl
      · rw [if_pos rfl]; exact keepM τ' s0 hx
      · rw [if_neg n10]; exact keepM τ' s0 hx
end PLAN
theorem st42 : St42 (InvA ActI) := by
  intro σ τ xs i h
  have same : InvA ActI σ τ := h
  obtain ⟨np, ne, bl, hP, hB, hM, ha⟩ := h
  generalize xs (i + 1) = p0
  generalize xs (i + 2) = p1
  generalize xs (i + 3) = p2
  obtain ⟨nr, r4, r35, r901⟩ := hM.2.2.2.2.2.2.2.1
  obtain ⟨ns, s4, s39, s905, hst⟩ := hM.2.2.2.2.2.2.2.2.2.2.2.2.1
  have s906 := hM.2.2.2.2.2.2.2.2.2.2.2.2.2.1
  have s907 := hM.2.2.2.2.2.2.2.2.2.2.2.2.2.2.1
  have h207 : τ.1 207 = 0 := hM.2.2.2.2.2.2.2.2.2.2.2.2.2.2.2.2.2.1
  have h51 : ∀ k, k < 4 → σ.2.1 51 k = 100 := hM.2.2.2.2.2.2.2.2.2.2.2.2.2.2.2.2.1
  have snE : ∃ sn : Nat → Nat, ∀ k, k < ns → (sn k = 0 ∨ sn k = 1 ∨ sn k = 3) ∧ σ.2.1 40 k = nI (sn k) := by
    have : ∀ k, ∃ s : Nat, k < ns → (s = 0 ∨ s = 1 ∨ s = 3) ∧ σ.2.1 40 k = nI s := by
      intro k
      by_cases hk : k < ns
      · rcases (hst k hk).1 with e | e | e
        · exact ⟨0, fun _ => ⟨Or.inl rfl, e⟩⟩
        · exact ⟨1, fun _ => ⟨Or.inr (Or.inl rfl), e⟩⟩
        · exact ⟨3, fun _ => ⟨Or.inr (Or.inr rfl), e⟩⟩
      · exact ⟨0, fun g => absurd g hk⟩
    exact Classical.axiomOfChoice this
  obtain ⟨sn, hsn⟩ := snE
  have hs : Sts σ τ ns sn := ⟨s4, s39, s905, s906, s907, fun k hk => ⟨(hsn k hk).1, (hsn k hk).2, (hst k hk).2⟩⟩
  unfold W_plan M_plan
  rw [W_isYear_eq, M_isYear_eq, M_in_eq, M_in_eq, in_if1]
  simp only [bind_so, b01_if]
  by_cases c : 0 ≤ p2 ∧ p2 ≤ 1
  case neg =>
    rw [if_neg c, if_neg c]
    exact ⟨_, _, _, rfl, rfl, same⟩
  rw [if_pos c, if_pos c]
  by_cases cy : 0 ≤ p0 ∧ p0 ≤ 99
  case neg =>
    rw [if_neg cy, if_neg cy]
    exact ⟨_, _, _, rfl, rfl, same⟩
  rw [if_pos cy, if_pos cy, in_if1]
  by_cases cn : 1 ≤ p1 ∧ p1 ≤ 20
  case neg =>
    rw [if_neg cn, if_neg cn]
    exact ⟨_, _, _, rfl, rfl, same⟩
  rw [if_pos cn, if_pos cn]
  obtain ⟨Y, hY, rfl⟩ := inRn (k := p0) (n := 99) ⟨i32_le.mp cy.1, i32_le.mp cy.2⟩ (by decide)
  obtain ⟨n, hn, rfl⟩ := inRn (k := p1) (n := 20) ⟨by have := i32_le.mp cn.1; rw [show (1 : Int32).toInt = 1 from rfl] at this; omega, i32_le.mp cn.2⟩ (by decide)
  obtain ⟨na, hh, od, cb⟩ := InvA.cb hP hB hM ha
  obtain ⟨K, σl, τr, f, τ1, q1, q2, q3, ck, hx, sM, sX⟩ := cb.look2
  obtain ⟨v, v1, v2⟩ := ck.chest (Y := Y) (by omega)
  obtain ⟨σ2, y1, y2⟩ := v1 σl (Rm.refl σl)
  have y1' : M_chestBehind σl (nI Y) = some (v, σ2) := y1
  obtain ⟨τ2, z1, z2⟩ := v2 τ1 hx
  have z1' : Cn_chestBehind τ1 (nI Y) = some (v, τ2) := z1
  have sM2 : SameM σ σ2 := sM.trans y2.same
  have sXr : SameX τ (xA τr 206 f) := sX.trans ⟨fun _ _ _ _ => rfl, fun j j1 _ _ _ _ _ _ => xA_ne j1, rfl⟩
  have sX2 : SameX τ τ2 := sXr.trans z2.same
  have h207' : τ2.1 207 = 0 := (sX2.1 207 (by decide) (by decide) (by decide)).trans h207
  have hd : DayOk (nI (100 * Y + 99)) := by unfold DayOk; rw [nI_i (by omega)]; omega
  obtain ⟨m, L, σx, τ3, l1, l2, l3, l4, l5⟩ := least_run cb.cp q2 z2 h207' (d := nI (100 * Y + 99)) (by rw [h51 0 (by decide)]; exact ⟨by decide, by decide⟩) hd
  have ed : ((nI Y * 100) + 100) - 1 = nI (100 * Y + 99) := by rw [yd, show (100 : Int32) = nI 100 from rfl, nI_add, nI_pred]
  have x0 : xI τ 207 0 = τ := by
    refine Prod.ext (funext fun j => ?_) rfl
    show va_up τ.1 207 0 j = τ.1 j
    unfold va_up
    split
    · next e => rw [e, h207]
    · rfl
  obtain ⟨r, σ4, τ4, g1, e1, e2, e3, e4, e5⟩ := plan_loop cb.cp hs r4 r35 r901 q2 z2 h207' (Y := Y) (n := n) (by omega) hn v l3 p2 (2 ^ ns) 0 100000 100000 σ2 τ3 (σ.2.1 51) 0 (-5) (-5) (-5) (by omega) (by rcases (show ns = 0 ∨ ns = 1 ∨ ns = 2 ∨ ns = 3 ∨ ns = 4 by omega) with e | e | e | e | e <;> rw [e] <;> decide) (by rcases (show ns = 0 ∨ ns = 1 ∨ ns = 2 ∨ ns = 3 ∨ ns = 4 by omega) with e | e | e | e | e <;> rw [e] <;> decide) (by rw [sA_self]; exact sM2) (by rw [x0]; exact sX2.trans l4.same) (Or.inl ⟨rfl, rfl, rfl⟩)
  have e1' : M_plan_L54 100000 σ2 (nI Y) (nI n) p2 v (-5) (-5) 0 = some (r, σ4) := e1
  have e4' : W_plan_L75 100000 τ3 (nI Y) (nI n) p2 v L (-5) 0 = some (r, τ4) := e4
  rw [q1, q3, bind_pq, bind_pq, y1', z1', bind_pq, bind_pq, ed, l3, bind_pq, e1', e4']
  have inv0 : InvA ActI (sA σ 51 g1) (xI τ 207 0) := by
    obtain ⟨m1, m2, m3, m4, m5, m6, m7, m8, m9, m10, m11, m12, m13, m14, m15, m16, m17, m18, m19⟩ := hM
    exact ⟨np, ne, bl, hP, hB, ⟨m1, m2, m3, m4, m5, m6, m7, m8, m9, m10, m11, m12, m13, m14, m15, m16, e3, rfl, m19⟩, ActI_stb _ _ _ _ ha rfl rfl rfl rfl rfl rfl rfl rfl rfl rfl rfl rfl rfl⟩
  exact ⟨_, _, _, rfl, rfl, inv0.same ActI_stb e2 e5⟩
