def nA (τ : XS) : Nat := τ.2.2.2.1
def tF (τ : XS) (a j : Nat) : Int32 := (τ.2.2.2.2.2.2 a).1 j
def tA (τ : XS) (a j : Nat) : Nat → Int32 := (τ.2.2.2.2.2.2 a).2 j
def xTI (τ : XS) (a j : Nat) (v : Int32) : XS := xT τ a (va_up (τ.2.2.2.2.2.2 a).1 j v, (τ.2.2.2.2.2.2 a).2)
def xTA (τ : XS) (a j : Nat) (f : Nat → Int32) : XS := xT τ a ((τ.2.2.2.2.2.2 a).1, va_up (τ.2.2.2.2.2.2 a).2 j f)
def oA {β : Type} (n : Nat) (o : Option Nat) (k : Nat → Option β) : Option β := match o with
  | some a => if a < n then k a else none
  | none => none
def gA {β : Type} (n a : Nat) (k : Option β) : Option β := if a < n then k else none
def oS {β : Type} (n : Nat) (o : Option Nat) (k : Option β) : Option β := match o with
  | some a => if a < n then k else none
  | none => k
def oN {α β : Type} (o : Option α) (k0 k1 : Option β) : Option β := match o with
  | some _ => k1
  | none => k0
def fillF (n : Nat) (v : Int32) (f : Nat → Int32) : Nat → Int32 := fun j => if j < n then v else f j
theorem fillF_0 (v : Int32) (f : Nat → Int32) : fillF 0 v f = f := by funext j; simp [fillF]
theorem fillF_s (n : Nat) (v : Int32) (f : Nat → Int32) : upd (fillF n v f) n v = fillF (n + 1) v f := by
  funext j
  unfold upd fillF
  by_cases h : j = n
  · subst h; rw [if_pos rfl, if_pos (Nat.lt_succ_self _)]
  · rw [if_neg h]
    by_cases h2 : j < n
    · rw [if_pos h2, if_pos (by omega)]
    · rw [if_neg h2, if_neg (by omega)]
theorem fm_len {α : Type} {g : Nat → List α} (hg : ∀ a, (g a).length = 7) : ∀ n, ((List.range n).flatMap g).length = 7 * n := by
  intro n
  induction n with
  | zero => rfl
  | succ n ih => rw [List.range_succ, List.flatMap_append, List.length_append, ih, List.flatMap_singleton, hg]; omega
theorem fm_get {α : Type} {g : Nat → List α} (hg : ∀ a, (g a).length = 7) {a i : Nat} (hi : i < 7) : ∀ n, a < n → ((List.range n).flatMap g)[7 * a + i]? = (g a)[i]? := by
  intro n
  induction n with
  | zero => intro h; omega
  | succ n ih =>
    intro h
    rw [List.range_succ, List.flatMap_append, List.flatMap_singleton]
    by_cases h2 : a < n
    · rw [List.getElem?_append_left (by rw [fm_len hg]; omega)]; exact ih h2
    · have e : a = n := by omega
      subst e
      rw [List.getElem?_append_right (by rw [fm_len hg]; omega), fm_len hg]
      congr 1; omega
theorem fm_congr {α : Type} {g g' : Nat → List α} : ∀ n, (∀ b, b < n → g b = g' b) → (List.range n).flatMap g = (List.range n).flatMap g' := by
  intro n
  induction n with
  | zero => intro _; rfl
  | succ n ih =>
    intro h
    rw [List.range_succ, List.flatMap_append, List.flatMap_append, ih (fun b hb => h b (by omega)), List.flatMap_singleton, List.flatMap_singleton, h n (Nat.lt_succ_self n)]
theorem fm_set {α : Type} {g g' : Nat → List α} (hg : ∀ a, (g a).length = 7) {a i : Nat} {c : α} (hi : i < 7) (hs : (g a).set i c = g' a) (ho : ∀ b, b ≠ a → g b = g' b) : ∀ n, a < n → ((List.range n).flatMap g).set (7 * a + i) c = (List.range n).flatMap g' := by
  intro n
  induction n with
  | zero => intro h; omega
  | succ n ih =>
    intro h
    rw [List.range_succ, List.flatMap_append, List.flatMap_append, List.flatMap_singleton, List.flatMap_singleton]
    by_cases h2 : a < n
    · rw [List.set_append_left _ _ (by rw [fm_len hg]; omega), ih h2, ho n (by omega)]
    · have e : a = n := by omega
      subst e
      rw [List.set_append_right _ _ (by rw [fm_len hg]; omega), fm_len hg, fm_congr a (fun b hb => ho b (by omega)), show 7 * a + i - 7 * a = i by omega, hs]
theorem va_up_up {α : Type} (f : Nat → α) (k : Nat) (v v' : α) : va_up (va_up f k v) k v' = va_up f k v' := by
  funext j; unfold va_up; split <;> rfl
section ACT
variable {z : ZZ} {ad : Nat → Nat} {σ : MS} {τ : XS}
theorem xT_xT (τ : XS) (a : Nat) (q q' : (Nat → Int32) × (Nat → Nat → Int32)) : xT (xT τ a q) a q' = xT τ a q' := by
  unfold xT; simp only [va_up_up]
theorem cT_len (i : Nat) (q : (Nat → Int32) × (Nat → Nat → Int32)) : (cT z ad i q).length = 7 := rfl
theorem cla_at {a i : Nat} (h : a < nA τ) (hi : i < 7) : (wX z σ ad τ)[80 + (7 * a + i)]? = (cT z ad (80 + 7 * a) (τ.2.2.2.2.2.2 a))[i]? := by
  show (cM z ad σ ++ (cX z ad τ ++ cA z ad τ))[80 + (7 * a + i)]? = _
  rw [List.getElem?_append_right (by show 36 ≤ _; omega), List.getElem?_append_right (by show 44 ≤ _ - 36; omega)]
  show ((List.range τ.2.2.2.1).flatMap fun a => cT z ad (80 + 7 * a) (τ.2.2.2.2.2.2 a))[80 + (7 * a + i) - 36 - 44]? = _
  rw [show 80 + (7 * a + i) - 36 - 44 = 7 * a + i by omega]
  exact fm_get (fun b => cT_len _ _) hi _ h
theorem sta_at {a i : Nat} {c : Nat × va_E} {q : (Nat → Int32) × (Nat → Nat → Int32)} (h : a < nA τ) (hi : i < 7) (hs : (cT z ad (80 + 7 * a) (τ.2.2.2.2.2.2 a)).set i c = cT z ad (80 + 7 * a) q) : (wX z σ ad τ).set (80 + (7 * a + i)) c = wX z σ ad (xT τ a q) := by
  show (cM z ad σ ++ (cX z ad τ ++ cA z ad τ)).set (80 + (7 * a + i)) c = cM z ad σ ++ (cX z ad (xT τ a q) ++ cA z ad (xT τ a q))
  rw [List.set_append_right _ _ (by show 36 ≤ _; omega), List.set_append_right _ _ (by show 44 ≤ _ - 36; omega)]
  show cM z ad σ ++ (cX z ad τ ++ ((List.range τ.2.2.2.1).flatMap fun a => cT z ad (80 + 7 * a) (τ.2.2.2.2.2.2 a)).set (80 + (7 * a + i) - 36 - 44) c) = _
  rw [show 80 + (7 * a + i) - 36 - 44 = 7 * a + i by omega, fm_set (g := fun a => cT z ad (80 + 7 * a) (τ.2.2.2.2.2.2 a)) (g' := fun b => cT z ad (80 + 7 * b) (va_up τ.2.2.2.2.2.2 a q b)) (fun b => cT_len _ _) hi (by rw [va_up_self]; exact hs) (fun b hb => by rw [va_up_ne _ _ hb]) τ.2.2.2.1 h]
  rfl
theorem cla {a : Nat} (h : a < nA τ) : (wX z σ ad τ)[80 + 7 * a]? = some (ad (80 + 7 * a), .inr (0, fsX0 ad (80 + 7 * a) (τ.2.2.2.2.2.2 a))) := cla_at (i := 0) h (by decide)
theorem cla_1 {a : Nat} (h : a < nA τ) : (wX z σ ad τ)[80 + 7 * a + 1]? = some (ad (80 + 7 * a + 1), .inl (z.2.2.1 0, 8, .inl (tA τ a 3))) := cla_at (i := 1) h (by decide)
theorem cla_2 {a : Nat} (h : a < nA τ) : (wX z σ ad τ)[80 + 7 * a + 2]? = some (ad (80 + 7 * a + 2), .inl (z.2.2.1 0, 8, .inl (tA τ a 4))) := cla_at (i := 2) h (by decide)
theorem cla_3 {a : Nat} (h : a < nA τ) : (wX z σ ad τ)[80 + 7 * a + 3]? = some (ad (80 + 7 * a + 3), .inl (z.2.2.1 0, 8, .inl (tA τ a 5))) := cla_at (i := 3) h (by decide)
theorem cla_4 {a : Nat} (h : a < nA τ) : (wX z σ ad τ)[80 + 7 * a + 4]? = some (ad (80 + 7 * a + 4), .inl (z.2.2.1 0, 8, .inl (tA τ a 6))) := cla_at (i := 4) h (by decide)
theorem cla_5 {a : Nat} (h : a < nA τ) : (wX z σ ad τ)[80 + 7 * a + 5]? = some (ad (80 + 7 * a + 5), .inl (z.2.2.1 0, 8, .inl (tA τ a 7))) := cla_at (i := 5) h (by decide)
theorem cla_6 {a : Nat} (h : a < nA τ) : (wX z σ ad τ)[80 + 7 * a + 6]? = some (ad (80 + 7 * a + 6), .inl (z.2.2.1 0, 200, .inl (tA τ a 8))) := cla_at (i := 6) h (by decide)
theorem sta0 {a : Nat} {v : Int32} (h : a < nA τ) : (wX z σ ad τ).set (80 + 7 * a) (ad (80 + 7 * a), .inr (0, (fsX0 ad (80 + 7 * a) (τ.2.2.2.2.2.2 a)).set 0 (.int v))) = wX z σ ad (xTI τ a 0 v) := sta_at (i := 0) h (by decide) rfl
theorem sta1 {a : Nat} {v : Int32} (h : a < nA τ) : (wX z σ ad τ).set (80 + 7 * a) (ad (80 + 7 * a), .inr (0, (fsX0 ad (80 + 7 * a) (τ.2.2.2.2.2.2 a)).set 1 (.int v))) = wX z σ ad (xTI τ a 1 v) := sta_at (i := 0) h (by decide) rfl
theorem sta2 {a : Nat} {v : Int32} (h : a < nA τ) : (wX z σ ad τ).set (80 + 7 * a) (ad (80 + 7 * a), .inr (0, (fsX0 ad (80 + 7 * a) (τ.2.2.2.2.2.2 a)).set 2 (.int v))) = wX z σ ad (xTI τ a 2 v) := sta_at (i := 0) h (by decide) rfl
theorem sta9 {a : Nat} {v : Int32} (h : a < nA τ) : (wX z σ ad τ).set (80 + 7 * a) (ad (80 + 7 * a), .inr (0, (fsX0 ad (80 + 7 * a) (τ.2.2.2.2.2.2 a)).set 9 (.int v))) = wX z σ ad (xTI τ a 9 v) := sta_at (i := 0) h (by decide) rfl
theorem sta_1 {a : Nat} {f : Nat → Int32} (h : a < nA τ) : (wX z σ ad τ).set (80 + 7 * a + 1) (ad (80 + 7 * a + 1), .inl (z.2.2.1 0, 8, .inl f)) = wX z σ ad (xTA τ a 3 f) := sta_at (i := 1) h (by decide) rfl
theorem cla_u1 {a : Nat} {f : Nat → Int32} (h : a < nA τ) : (wX z σ ad (xTA τ a 3 f))[80 + 7 * a + 1]? = some (ad (80 + 7 * a + 1), .inl (z.2.2.1 0, 8, .inl f)) := by
  rw [cla_1 (τ := xTA τ a 3 f) h]; simp only [tA, xTA, xT, va_up_self]
theorem sta_u1 {a : Nat} {f g : Nat → Int32} (h : a < nA τ) : (wX z σ ad (xTA τ a 3 f)).set (80 + 7 * a + 1) (ad (80 + 7 * a + 1), .inl (z.2.2.1 0, 8, .inl g)) = wX z σ ad (xTA τ a 3 g) := by
  rw [sta_1 (τ := xTA τ a 3 f) h]; simp only [xTA, xT, va_up_self, xT_xT, va_up_up]
theorem sta_2 {a : Nat} {f : Nat → Int32} (h : a < nA τ) : (wX z σ ad τ).set (80 + 7 * a + 2) (ad (80 + 7 * a + 2), .inl (z.2.2.1 0, 8, .inl f)) = wX z σ ad (xTA τ a 4 f) := sta_at (i := 2) h (by decide) rfl
theorem cla_u2 {a : Nat} {f : Nat → Int32} (h : a < nA τ) : (wX z σ ad (xTA τ a 4 f))[80 + 7 * a + 2]? = some (ad (80 + 7 * a + 2), .inl (z.2.2.1 0, 8, .inl f)) := by
  rw [cla_2 (τ := xTA τ a 4 f) h]; simp only [tA, xTA, xT, va_up_self]
theorem sta_u2 {a : Nat} {f g : Nat → Int32} (h : a < nA τ) : (wX z σ ad (xTA τ a 4 f)).set (80 + 7 * a + 2) (ad (80 + 7 * a + 2), .inl (z.2.2.1 0, 8, .inl g)) = wX z σ ad (xTA τ a 4 g) := by
  rw [sta_2 (τ := xTA τ a 4 f) h]; simp only [xTA, xT, va_up_self, xT_xT, va_up_up]
theorem sta_3 {a : Nat} {f : Nat → Int32} (h : a < nA τ) : (wX z σ ad τ).set (80 + 7 * a + 3) (ad (80 + 7 * a + 3), .inl (z.2.2.1 0, 8, .inl f)) = wX z σ ad (xTA τ a 5 f) := sta_at (i := 3) h (by decide) rfl
theorem cla_u3 {a : Nat} {f : Nat → Int32} (h : a < nA τ) : (wX z σ ad (xTA τ a 5 f))[80 + 7 * a + 3]? = some (ad (80 + 7 * a + 3), .inl (z.2.2.1 0, 8, .inl f)) := by
  rw [cla_3 (τ := xTA τ a 5 f) h]; simp only [tA, xTA, xT, va_up_self]
theorem sta_u3 {a : Nat} {f g : Nat → Int32} (h : a < nA τ) : (wX z σ ad (xTA τ a 5 f)).set (80 + 7 * a + 3) (ad (80 + 7 * a + 3), .inl (z.2.2.1 0, 8, .inl g)) = wX z σ ad (xTA τ a 5 g) := by
  rw [sta_3 (τ := xTA τ a 5 f) h]; simp only [xTA, xT, va_up_self, xT_xT, va_up_up]
theorem sta_4 {a : Nat} {f : Nat → Int32} (h : a < nA τ) : (wX z σ ad τ).set (80 + 7 * a + 4) (ad (80 + 7 * a + 4), .inl (z.2.2.1 0, 8, .inl f)) = wX z σ ad (xTA τ a 6 f) := sta_at (i := 4) h (by decide) rfl
theorem cla_u4 {a : Nat} {f : Nat → Int32} (h : a < nA τ) : (wX z σ ad (xTA τ a 6 f))[80 + 7 * a + 4]? = some (ad (80 + 7 * a + 4), .inl (z.2.2.1 0, 8, .inl f)) := by
  rw [cla_4 (τ := xTA τ a 6 f) h]; simp only [tA, xTA, xT, va_up_self]
theorem sta_u4 {a : Nat} {f g : Nat → Int32} (h : a < nA τ) : (wX z σ ad (xTA τ a 6 f)).set (80 + 7 * a + 4) (ad (80 + 7 * a + 4), .inl (z.2.2.1 0, 8, .inl g)) = wX z σ ad (xTA τ a 6 g) := by
  rw [sta_4 (τ := xTA τ a 6 f) h]; simp only [xTA, xT, va_up_self, xT_xT, va_up_up]
theorem sta_5 {a : Nat} {f : Nat → Int32} (h : a < nA τ) : (wX z σ ad τ).set (80 + 7 * a + 5) (ad (80 + 7 * a + 5), .inl (z.2.2.1 0, 8, .inl f)) = wX z σ ad (xTA τ a 7 f) := sta_at (i := 5) h (by decide) rfl
theorem cla_u5 {a : Nat} {f : Nat → Int32} (h : a < nA τ) : (wX z σ ad (xTA τ a 7 f))[80 + 7 * a + 5]? = some (ad (80 + 7 * a + 5), .inl (z.2.2.1 0, 8, .inl f)) := by
  rw [cla_5 (τ := xTA τ a 7 f) h]; simp only [tA, xTA, xT, va_up_self]
theorem sta_u5 {a : Nat} {f g : Nat → Int32} (h : a < nA τ) : (wX z σ ad (xTA τ a 7 f)).set (80 + 7 * a + 5) (ad (80 + 7 * a + 5), .inl (z.2.2.1 0, 8, .inl g)) = wX z σ ad (xTA τ a 7 g) := by
  rw [sta_5 (τ := xTA τ a 7 f) h]; simp only [xTA, xT, va_up_self, xT_xT, va_up_up]
theorem sta_6 {a : Nat} {f : Nat → Int32} (h : a < nA τ) : (wX z σ ad τ).set (80 + 7 * a + 6) (ad (80 + 7 * a + 6), .inl (z.2.2.1 0, 200, .inl f)) = wX z σ ad (xTA τ a 8 f) := sta_at (i := 6) h (by decide) rfl
theorem cla_u6 {a : Nat} {f : Nat → Int32} (h : a < nA τ) : (wX z σ ad (xTA τ a 8 f))[80 + 7 * a + 6]? = some (ad (80 + 7 * a + 6), .inl (z.2.2.1 0, 200, .inl f)) := by
  rw [cla_6 (τ := xTA τ a 8 f) h]; simp only [tA, xTA, xT, va_up_self]
theorem sta_u6 {a : Nat} {f g : Nat → Int32} (h : a < nA τ) : (wX z σ ad (xTA τ a 8 f)).set (80 + 7 * a + 6) (ad (80 + 7 * a + 6), .inl (z.2.2.1 0, 200, .inl g)) = wX z σ ad (xTA τ a 8 g) := by
  rw [sta_6 (τ := xTA τ a 8 f) h]; simp only [xTA, xT, va_up_self, xT_xT, va_up_up]
theorem st_u50 {f g : Nat → Int32} : (wX z σ ad (xA τ 401 f)).set 50 (ad 50, .inl (z.2.2.1 0, 24, .inl g)) = wX z σ ad (xA τ 401 g) := by
  rw [st_50]; simp only [xA, va_up_up]
theorem st_u52 {f g : Nat → Int32} : (wX z σ ad (xA τ 403 f)).set 52 (ad 52, .inl (z.2.2.1 0, 24, .inl g)) = wX z σ ad (xA τ 403 g) := by
  rw [st_52]; simp only [xA, va_up_up]
theorem st_u60 {f g : Nat → Int32} : (wX z σ ad (xA τ 305 f)).set 60 (ad 60, .inl (z.2.2.1 0, 5, .inl g)) = wX z σ ad (xA τ 305 g) := by
  rw [st_60]; simp only [xA, va_up_up]
end ACT
section ACR
variable {S ρ ζ : Type} {z : ZZ} {x : XX} {nL : Nat} {w : (Nat → Nat) → S → va_W} {ra : ρ → Option Value} {F : (Nat → Nat) → Prop} {mc ms k n : Nat} {ad : Nat → Nat} {pc : Nat} {lv : List (Nat × Value)} {st : List Value} {σ σ1 : S} {d d1 d2 : Option (ρ × S)} {e1 e2 : Option ζ} {g : ζ → ρ × S} {cc : ByteArray} {own : String} {ret : Option FieldType}
theorem at_gA {a N : Nat} (kk : a < N → AT z x nL w ra F mc ms k n ad pc lv st σ d) : AT z x nL w ra F mc ms k n ad pc lv st σ (gA N a d) := by
  unfold gA
  split
  · next h => exact kk h
  · exact at_none
theorem at_oA {o : Option Nat} {N : Nat} {pre post : List Value} {kd : Nat → Option (ρ × S)} (h : st = pre ++ vr o :: post) (kk : ∀ a, o = some a → a < N → AT z x nL w ra F mc ms k n ad pc lv (pre ++ .ref (80 + 7 * a) :: post) σ (kd a)) : AT z x nL w ra F mc ms k n ad pc lv st σ (oA N o kd) := by
  subst h
  cases o with
  | none => exact at_none
  | some a =>
    show AT z x nL w ra F mc ms k n ad pc lv (pre ++ .ref (80 + 7 * a) :: post) σ (if a < N then kd a else none)
    split
    · next h => exact kk a rfl h
    · exact at_none
theorem at_ifnull (hC : CX z ad x cc own nL ret) {o : Option Nat} {off : Int} {tgt : Nat} (hd : decode cc pc = .ok (.ifnull off, 3)) (ht : (pc : Int) + off = (tgt : Int)) (kt : AT z x nL w ra F mc ms k n ad tgt lv st σ d1) (kf : AT z x nL w ra F mc ms k n ad (pc + 3) lv st σ d2) : AT z x nL w ra F mc ms k n ad pc lv (vr o :: st) σ (oN o d1 d2) := by
  intro r σ' hd' H locs ls hP hD hS hl
  cases o with
  | none => exact lv_ifnullN hC.1 hC.2.1 hd ht (kt r σ' hd' H locs ls hP hD hS hl)
  | some a => exact lv_ifnull hC.1 hC.2.1 hd (kf r σ' hd' H locs ls hP hD hS hl)
theorem at_ifnonnull (hC : CX z ad x cc own nL ret) {o : Option Nat} {off : Int} {tgt : Nat} (hd : decode cc pc = .ok (.ifnonnull off, 3)) (ht : (pc : Int) + off = (tgt : Int)) (kt : AT z x nL w ra F mc ms k n ad tgt lv st σ d1) (kf : AT z x nL w ra F mc ms k n ad (pc + 3) lv st σ d2) : AT z x nL w ra F mc ms k n ad pc lv (vr o :: st) σ (oN o d2 d1) := by
  intro r σ' hd' H locs ls hP hD hS hl
  cases o with
  | none => exact lv_ifnonnullN hC.1 hC.2.1 hd (kf r σ' hd' H locs ls hP hD hS hl)
  | some a => exact lv_ifnonnull hC.1 hC.2.1 hd ht (kt r σ' hd' H locs ls hP hD hS hl)
theorem at_aldq (hC : CX z ad x cc own nL ret) {i : Int32} {f : Nat → Option Nat} {N : Nat} {kd : Option Nat → Option (ρ × S)} (q : Nat) (hd : decode cc pc = .ok (.aaload, 1)) (ha : (w ad σ)[q]? = some (ad q, .inl (z.2.2.1 3, N, .inr (.inr (.inr (.inr (fun i => (f i).map (fun a => ad (80 + 7 * a)))))))) ) (kk : ∀ v : Option Nat, AT z x nL w ra F mc ms k n ad (pc + 1) lv (vr v :: st) σ (kd v)) : AT z x nL w ra F mc ms k n ad pc lv (.int i :: .ref q :: st) σ (rd f N i kd) := by
  intro r σ' hd' H locs ls hP hD hS hl
  unfold rd at hd'
  split at hd'
  · cases hd'
  · next h =>
    refine va_aldq hC.1 hC.2.1 hC.2.2.2.2.2.2.2.1 hP q 3 ha rfl h hd ?_
    have := kk _ r σ' hd' H locs ls hP hD hS hl
    rw [List.map_cons] at this
    cases e : f i.toNatClampNeg with
    | none => rw [e] at this; exact this
    | some a => rw [e] at this; exact this
theorem ap_gA {a N : Nat} (kk : a < N → AT z x nL w ra F mc ms k n ad pc lv st σ ((e1).map g)) : AT z x nL w ra F mc ms k n ad pc lv st σ (((gA N a e1)).map g) := by
  unfold gA
  split
  · next h => exact kk h
  · exact ap_none
theorem ap_oA {o : Option Nat} {N : Nat} {pre post : List Value} {kd : Nat → Option ζ} (h : st = pre ++ vr o :: post) (kk : ∀ a, o = some a → a < N → AT z x nL w ra F mc ms k n ad pc lv (pre ++ .ref (80 + 7 * a) :: post) σ (((kd a)).map g)) : AT z x nL w ra F mc ms k n ad pc lv st σ (((oA N o kd)).map g) := by
  subst h
  cases o with
  | none => exact ap_none
  | some a =>
    show AT z x nL w ra F mc ms k n ad pc lv (pre ++ .ref (80 + 7 * a) :: post) σ (((if a < N then kd a else none)).map g)
    split
    · next h => exact kk a rfl h
    · exact ap_none
theorem ap_ifnull (hC : CX z ad x cc own nL ret) {o : Option Nat} {off : Int} {tgt : Nat} (hd : decode cc pc = .ok (.ifnull off, 3)) (ht : (pc : Int) + off = (tgt : Int)) (kt : AT z x nL w ra F mc ms k n ad tgt lv st σ ((e1).map g)) (kf : AT z x nL w ra F mc ms k n ad (pc + 3) lv st σ ((e2).map g)) : AT z x nL w ra F mc ms k n ad pc lv (vr o :: st) σ (((oN o e1 e2)).map g) := by
  intro r σ' hd' H locs ls hP hD hS hl
  cases o with
  | none => exact lv_ifnullN hC.1 hC.2.1 hd ht (kt r σ' hd' H locs ls hP hD hS hl)
  | some a => exact lv_ifnull hC.1 hC.2.1 hd (kf r σ' hd' H locs ls hP hD hS hl)
theorem ap_ifnonnull (hC : CX z ad x cc own nL ret) {o : Option Nat} {off : Int} {tgt : Nat} (hd : decode cc pc = .ok (.ifnonnull off, 3)) (ht : (pc : Int) + off = (tgt : Int)) (kt : AT z x nL w ra F mc ms k n ad tgt lv st σ ((e1).map g)) (kf : AT z x nL w ra F mc ms k n ad (pc + 3) lv st σ ((e2).map g)) : AT z x nL w ra F mc ms k n ad pc lv (vr o :: st) σ (((oN o e2 e1)).map g) := by
  intro r σ' hd' H locs ls hP hD hS hl
  cases o with
  | none => exact lv_ifnonnullN hC.1 hC.2.1 hd (kf r σ' hd' H locs ls hP hD hS hl)
  | some a => exact lv_ifnonnull hC.1 hC.2.1 hd ht (kt r σ' hd' H locs ls hP hD hS hl)
theorem ap_aldq (hC : CX z ad x cc own nL ret) {i : Int32} {f : Nat → Option Nat} {N : Nat} {kd : Option Nat → Option ζ} (q : Nat) (hd : decode cc pc = .ok (.aaload, 1)) (ha : (w ad σ)[q]? = some (ad q, .inl (z.2.2.1 3, N, .inr (.inr (.inr (.inr (fun i => (f i).map (fun a => ad (80 + 7 * a)))))))) ) (kk : ∀ v : Option Nat, AT z x nL w ra F mc ms k n ad (pc + 1) lv (vr v :: st) σ (((kd v)).map g)) : AT z x nL w ra F mc ms k n ad pc lv (.int i :: .ref q :: st) σ (((rd f N i kd)).map g) := by
  intro r σ' hd' H locs ls hP hD hS hl
  unfold rd at hd'
  split at hd'
  · cases hd'
  · next h =>
    refine va_aldq hC.1 hC.2.1 hC.2.2.2.2.2.2.2.1 hP q 3 ha rfl h hd ?_
    have := kk _ r σ' hd' H locs ls hP hD hS hl
    rw [List.map_cons] at this
    cases e : f i.toNatClampNeg with
    | none => rw [e] at this; exact this
    | some a => rw [e] at this; exact this
theorem at_nullO (hC : CX z ad x cc own nL ret) (hd : decode cc pc = .ok (.aconst_null, 1)) (kk : AT z x nL w ra F mc ms k n ad (pc + 1) lv (vr none :: st) σ d) : AT z x nL w ra F mc ms k n ad pc lv st σ d := at_null hC hd kk
theorem at_aretO {C : String} (hC : CX z ad x cc own nL (some (.object C))) {o : Option Nat} (hd : decode cc pc = .ok (.areturn, 1)) (hF : F ad) (h1 : k ≤ mc) (h2 : n ≤ ms) : AT z x nL w rR F mc ms k n ad pc lv [vr o] σ (some (o, σ)) := by
  cases o with
  | none => exact at_aretN (ra := rR) hC hd hF h1 h2 rfl
  | some a => exact at_aret (ra := rR) hC hd hF h1 h2 rfl
theorem at_aload_nV (hC : CX z ad x cc own nL ret) {j i : Nat} {i4 : Fin 4} {o : Option Nat} (hi : (i4 : Nat) = i) (hv : lv[j]? = some (i, vr o)) (hd : decode cc pc = .ok (.aload_n i4, 1)) (kk : AT z x nL w ra F mc ms k n ad (pc + 1) lv (vr o :: st) σ d) : AT z x nL w ra F mc ms k n ad pc lv st σ d := by
  cases o with
  | none =>
    intro r σ' hd' H locs ls hP hD hS hl
    exact lv_aload_nN hC.1 hC.2.1 hd hi (at_lk hl hv) (kk r σ' hd' H locs ls hP hD hS hl)
  | some a => exact at_aload_n hC hi hv hd kk
theorem at_aloadV (hC : CX z ad x cc own nL ret) {j i : Nat} {o : Option Nat} (hv : lv[j]? = some (i, vr o)) (hd : decode cc pc = .ok (.aload i, 2)) (kk : AT z x nL w ra F mc ms k n ad (pc + 2) lv (vr o :: st) σ d) : AT z x nL w ra F mc ms k n ad pc lv st σ d := by
  cases o with
  | none =>
    intro r σ' hd' H locs ls hP hD hS hl
    exact lv_aloadN hC.1 hC.2.1 hd (at_lk hl hv) (kk r σ' hd' H locs ls hP hD hS hl)
  | some a => exact at_aload hC hv hd kk
theorem at_astore_nV (hC : CX z ad x cc own nL ret) {i : Nat} {i4 : Fin 4} (hi : (i4 : Nat) = i) {o : Option Nat} {lv' : List (Nat × Value)} (hd : decode cc pc = .ok (.astore_n i4, 1)) (hn : i < nL) (hv : (i, vr o) :: lv.filter (fun q => !(q.1 == i) && !(q.1 + 1 == i && q.2.category == 2)) = lv') (kk : AT z x nL w ra F mc ms k n ad (pc + 1) lv' st σ d) : AT z x nL w ra F mc ms k n ad pc lv (vr o :: st) σ d := by
  cases o with
  | none =>
    intro r σ' hd' H locs ls hP hD hS hl
    exact lv_astore_nN hC.1 hC.2.1 hd hi hl hn (at_fi (v := .null) hv) (fun ls' hl' => kk r σ' hd' H locs ls' hP hD hS hl')
  | some a => exact at_astore_n hC hi hd hn hv kk
theorem at_astoreV (hC : CX z ad x cc own nL ret) {i : Nat} {o : Option Nat} {lv' : List (Nat × Value)} (hd : decode cc pc = .ok (.astore i, 2)) (hn : i < nL) (hv : (i, vr o) :: lv.filter (fun q => !(q.1 == i) && !(q.1 + 1 == i && q.2.category == 2)) = lv') (kk : AT z x nL w ra F mc ms k n ad (pc + 2) lv' st σ d) : AT z x nL w ra F mc ms k n ad pc lv (vr o :: st) σ d := by
  cases o with
  | none =>
    intro r σ' hd' H locs ls hP hD hS hl
    exact lv_astoreN hC.1 hC.2.1 hd hl hn (at_fi (v := .null) hv) (fun ls' hl' => kk r σ' hd' H locs ls' hP hD hS hl')
  | some a => exact at_astore hC hd hn hv kk
theorem row_up (f : Nat → Option Nat) (i : Nat) (o : Option Nat) (ad : Nat → Nat) (g : Nat → Option Nat) (hg : ∀ j, g j = if j = i then o.map (fun a => ad (80 + 7 * a)) else (f j).map (fun a => ad (80 + 7 * a))) : g = fun j => (va_up f i o j).map (fun a => ad (80 + 7 * a)) := by
  funext j
  rw [hg]
  unfold va_up
  split <;> rfl
end ACR
section ACS
variable {ρ : Type} {z : ZZ} {x : XX} {nL : Nat} {ra : ρ → Option Value} {F : (Nat → Nat) → Prop} {mc ms k n : Nat} {ad : Nat → Nat} {pc : Nat} {lv : List (Nat × Value)} {st : List Value} {σ : MS} {τ : XS} {d : Option (ρ × XS)} {cc : ByteArray} {own : String} {ret : Option FieldType}
theorem at_astq (hC : CX z ad x cc own nL ret) {i : Int32} {o : Option Nat} (hd : decode cc pc = .ok (.aastore, 1)) (kk : AT z x nL (wX z σ) ra F mc ms k n ad (pc + 1) lv st (xR τ (va_up τ.2.2.2.2.1 i.toNatClampNeg o)) d) : AT z x nL (wX z σ) ra F mc ms k n ad pc lv (vr o :: .int i :: .ref 58 :: st) τ (wr 9 i (oS (nA τ) o d)) := by
  intro r σ' hd' H locs ls hP hD hS hl
  unfold wr at hd'
  split at hd'
  · cases hd'
  · next h =>
    cases o with
    | none =>
      refine va_astqN hC.1 hC.2.1 hC.2.2.2.2.2.2.2.1 hP hD hS 58 3 cl_58 rfl h hd (fun H1 locs1 hP1 hD1 hS1 => ?_)
      have e : ∀ g : Nat → Option Nat, (∀ j, g j = if j = i.toNatClampNeg then none else (τ.2.2.2.2.1 j).map (fun a => ad (80 + 7 * a))) → (wX z σ ad τ).set 58 (ad 58, .inl (z.2.2.1 3, 9, .inr (.inr (.inr (.inr g))))) = wX z σ ad (xR τ (va_up τ.2.2.2.2.1 i.toNatClampNeg none)) := fun g hg => by rw [row_up τ.2.2.2.2.1 i.toNatClampNeg none ad g hg]; rfl
      rw [e (va_up (fun j => (τ.2.2.2.2.1 j).map (fun a => ad (80 + 7 * a))) i.toNatClampNeg none) (fun j => rfl)] at hP1 hD1
      exact kk r σ' hd' H1 locs1 ls hP1 hD1 hS1 hl
    | some a =>
      have h9 : a < nA τ := by
        by_cases h9 : a < nA τ
        · exact h9
        · simp [oS, h9] at hd'
      have hd2 : d = some (r, σ') := by simpa [oS, h9] using hd'
      refine va_astq hC.1 hC.2.1 hC.2.2.2.2.2.2.2.1 hP hD hS 58 3 (80 + 7 * a) 0 (r := (RX0, TX0, 10)) cl_58 rfl (cla h9) rfl h hd (fun H1 locs1 hP1 hD1 hS1 => ?_)
      have e : ∀ g : Nat → Option Nat, (∀ j, g j = if j = i.toNatClampNeg then some (ad (80 + 7 * a)) else (τ.2.2.2.2.1 j).map (fun a => ad (80 + 7 * a))) → (wX z σ ad τ).set 58 (ad 58, .inl (z.2.2.1 3, 9, .inr (.inr (.inr (.inr g))))) = wX z σ ad (xR τ (va_up τ.2.2.2.2.1 i.toNatClampNeg (some a))) := fun g hg => by rw [row_up τ.2.2.2.2.1 i.toNatClampNeg (some a) ad g hg]; rfl
      rw [e (va_up (fun j => (τ.2.2.2.2.1 j).map (fun a => ad (80 + 7 * a))) i.toNatClampNeg (some (ad (80 + 7 * a)))) (fun j => rfl)] at hP1 hD1
      exact kk r σ' hd2 H1 locs1 ls hP1 hD1 hS1 hl
end ACS
section FIL
variable {S ρ ζ : Type} {z : ZZ} {x : XX} {nL : Nat} {w : (Nat → Nat) → S → va_W} {ra : ρ → Option Value} {F : (Nat → Nat) → Prop} {mc ms k n : Nat} {ad : Nat → Nat} {pc : Nat} {lv : List (Nat × Value)} {st : List Value} {σ σ1 : S} {d d1 d2 : Option (ρ × S)} {e1 e2 : Option ζ} {g : ζ → ρ × S} {cc : ByteArray} {own : String} {ret : Option FieldType}
theorem c_fill {q N : Nat} {v : Int32} {f : Nat → Int32} {mk : (Nat → Int32) → S} (c0 : ∀ ad, (w ad σ)[q]? = some (ad q, .inl (z.2.2.1 0, N, .inl f))) (s0 : ∀ ad g, (w ad σ).set q (ad q, .inl (z.2.2.1 0, N, .inl g)) = w ad (mk g)) (c1 : ∀ ad f, (w ad (mk f))[q]? = some (ad q, .inl (z.2.2.1 0, N, .inl f))) (s1 : ∀ ad f g, (w ad (mk f)).set q (ad q, .inl (z.2.2.1 0, N, .inl g)) = w ad (mk g)) (hN : 0 < N ∧ N < 1000) : Ct z w rU eqA yJ7_fill_53178 cJ7_fill_53178 4 none 1 0 0 [.ref q, .int v] σ (some ((), mk (fillF N v f))) := by
  refine Ct.of (by decide) (Nat.le_of_ble_eq_true rfl) (fun ad x hC hR _ => ?_)
  show AT z x 4 w rU (eqA ad) 0 0 0 0 ad 0 [(0, .ref q), (1, .int v)] [] σ (some ((), mk (fillF N v f)))
  refine at_iconst (v := 0) hC (by decide) dJ7_fill_53178_0 ?_
  refine at_istore_n (lv' := [(2, .int 0), (0, .ref q), (1, .int v)]) hC rfl dJ7_fill_53178_1 (by decide) rfl ?_
  refine at_aload_n (j := 1) hC rfl rfl dJ7_fill_53178_2 ?_
  refine at_alen (v := Int32.ofNat N) (ty := .int) hC q 0 dJ7_fill_53178_3 (c0 ad) rfl rfl ?_
  refine at_istore_n (lv' := [(3, .int (Int32.ofNat N)), (2, .int 0), (0, .ref q), (1, .int v)]) hC rfl dJ7_fill_53178_4 (by decide) rfl ?_
  have key : ∀ (m i : Nat) (s : S), i + m = N → (∀ ad, (w ad s)[q]? = some (ad q, .inl (z.2.2.1 0, N, .inl (fillF i v f)))) → (∀ ad g, (w ad s).set q (ad q, .inl (z.2.2.1 0, N, .inl g)) = w ad (mk g)) → (i = N → s = mk (fillF N v f)) → AT z x 4 w rU (eqA ad) 0 0 0 0 ad 5 [(3, .int (Int32.ofNat N)), (2, .int (Int32.ofNat i)), (0, .ref q), (1, .int v)] [] s (some ((), mk (fillF N v f))) := by
    intro m
    induction m with
    | zero =>
      intro i s hi hc hs he
      have hi : i = N := by omega
      refine at_iload_n (j := 1) hC rfl rfl dJ7_fill_53178_5 ?_
      refine at_iload_n (j := 0) hC rfl rfl dJ7_fill_53178_6 ?_
      rw [show (some ((), mk (fillF N v f))) = (if Int32.ofNat N ≤ Int32.ofNat i then some ((), mk (fillF N v f)) else none) by rw [if_pos (by rw [hi]; exact Int32.le_refl _)]]
      refine at_icmp_ge (tgt := 20) hC dJ7_fill_53178_7 rfl (fun _ => ?_) (fun _ => at_none)
      rw [he hi]
      exact at_vret (F := eqA ad) (ra := rU) hC dJ7_fill_53178_20 rfl (Nat.le_refl 0) (Nat.le_refl 0) rfl
    | succ m ih =>
      intro i s hi hc hs he
      have hlt : ¬ Int32.ofNat N ≤ Int32.ofNat i := by
        rw [Int32.not_le, Int32.lt_iff_toInt_lt, Int32.toInt_ofNat_of_lt (by omega), Int32.toInt_ofNat_of_lt (by omega)]; omega
      have hcl : (Int32.ofNat i).toNatClampNeg = i := by
        show (Int32.ofNat i).toInt.toNat = i
        rw [Int32.toInt_ofNat_of_lt (by omega)]; rfl
      have hin : ¬ (Int32.ofNat i < 0 ∨ N ≤ (Int32.ofNat i).toNatClampNeg) := by
        rw [hcl]
        rintro (h | h)
        · rw [Int32.lt_iff_toInt_lt, Int32.toInt_ofNat_of_lt (by omega)] at h
          have h2 : ((i : Nat) : Int) < 0 := h
          omega
        · omega
      refine at_iload_n (j := 1) hC rfl rfl dJ7_fill_53178_5 ?_
      refine at_iload_n (j := 0) hC rfl rfl dJ7_fill_53178_6 ?_
      rw [show (some ((), mk (fillF N v f))) = (if Int32.ofNat N ≤ Int32.ofNat i then none else wr N (Int32.ofNat i) (some ((), mk (fillF N v f)))) by rw [if_neg hlt, wr, if_neg hin]]
      refine at_icmp_ge (tgt := 20) hC dJ7_fill_53178_7 rfl (fun h => absurd h hlt) (fun _ => ?_)
      refine at_aload_n (j := 2) hC rfl rfl dJ7_fill_53178_10 ?_
      refine at_iload_n (j := 1) hC rfl rfl dJ7_fill_53178_11 ?_
      refine at_iload_n (j := 3) hC rfl rfl dJ7_fill_53178_12 ?_
      refine at_iast hC q dJ7_fill_53178_13 (hc ad) (hs ad _) ?_
      refine at_iinc (j := 1) (v := Int32.ofNat i + 1) (lv' := [(2, .int (Int32.ofNat i + 1)), (3, .int (Int32.ofNat N)), (0, .ref q), (1, .int v)]) hC dJ7_fill_53178_14 rfl rfl (by decide) rfl ?_
      refine at_goto (tgt := 5) hC dJ7_fill_53178_17 rfl ?_
      rw [hcl, fillF_s, show Int32.ofNat i + 1 = Int32.ofNat (i + 1) from (Int32.ofNat_add i 1).symm]
      refine at_drop (lv' := [(3, .int (Int32.ofNat N)), (2, .int (Int32.ofNat (i + 1))), (0, .ref q), (1, .int v)]) [1, 0, 2, 3] rfl ?_
      exact ih (i + 1) _ (by omega) (fun ad => c1 ad _) (fun ad g => s1 ad _ g) (fun h => by rw [h])
  exact key N 0 σ (by omega) (fun ad => by rw [fillF_0]; exact c0 ad) s0 (fun h => by omega)
theorem at_fill (hC : CX z ad x cc own nL ret) {h mcR msR : Nat} (hR : x.2.2.1 = rmk h mcR msR) {idx q N : Nat} {v : Int32} {f : Nat → Int32} {mk : (Nat → Int32) → S} (lk : LkS own idx yJ7_fill_53178 cJ7_fill_53178 4 none 2) (hd : decode cc pc = .ok (.invokestatic idx, 3)) (c0 : ∀ ad, (w ad σ)[q]? = some (ad q, .inl (z.2.2.1 0, N, .inl f))) (s0 : ∀ ad g, (w ad σ).set q (ad q, .inl (z.2.2.1 0, N, .inl g)) = w ad (mk g)) (c1 : ∀ ad f, (w ad (mk f))[q]? = some (ad q, .inl (z.2.2.1 0, N, .inl f))) (s1 : ∀ ad f g, (w ad (mk f)).set q (ad q, .inl (z.2.2.1 0, N, .inl g)) = w ad (mk g)) (hN : 0 < N ∧ N < 1000) (hh : 2 ≤ h) (hW : (st.map fun v => v.category).sum ≤ 8) (hk : k ≤ mcR ∧ n ≤ msR) (kk : AT z x nL w ra F mc ms k n ad (pc + 3) lv st (mk (fillF N v f)) d) : AT z x nL w ra F mc ms k n ad pc lv (.int v :: .ref q :: st) σ d := 
  at_callS (ra' := rU) (As := [.ref q, .int v]) (rest := st) (f := some ((), mk (fillF N v f))) (kd := fun _ => d) hC hR lk (c_fill c0 s0 c1 s1 hN) hd rfl rfl ⟨hh, by decide⟩ hW hk (fun r σ1 e => by cases e; exact kk)
end FIL
