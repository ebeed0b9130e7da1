
theorem gi_cons {a : Cond} {b : List Cond} (ha : a ∈ GW) (hb : GoodIn GW b) : GoodIn GW (a :: b) := fun w h => (List.mem_cons.mp h).elim (fun e => by rw [e]; exact ⟨ha, good_of_word (gw_good ha)⟩) (hb w)
theorem gi_self : GoodIn GW GW := fun w h => ⟨h, good_of_word (gw_good h)⟩
def LkV (own : String) (idx : Nat) (y : MethodName) (cc : ByteArray) (maxL : Nat) (ret : Option FieldType) (na : Nat) : Prop :=
  .methodLink own idx y ∈ GW ∧ .instanceMethod y ∈ GW ∧ .selects y.cls y y ∈ GW ∧ .initialized y.cls ∈ GW ∧ .code y cc maxL ret ∈ GW ∧ (y.cls ≠ "java/lang/invoke/MethodHandle" ∧ y.cls ≠ "java/lang/invoke/VarHandle") ∧ (parseMethodDescriptor y.desc).map (fun d => d.parameters.length) = some na
def LkS (own : String) (idx : Nat) (y : MethodName) (cc : ByteArray) (maxL : Nat) (ret : Option FieldType) (na : Nat) : Prop :=
  .methodLink own idx y ∈ GW ∧ .static y ∈ GW ∧ .initialized y.cls ∈ GW ∧ .code y cc maxL ret ∈ GW ∧ (y.cls ≠ "java/lang/invoke/MethodHandle" ∧ y.cls ≠ "java/lang/invoke/VarHandle") ∧ (parseMethodDescriptor y.desc).map (fun d => d.parameters.length) = some na
def vr : Option Nat → Value
  | some a => .ref (80 + 7 * a)
  | none => .null
def rI : Int32 → Option Value := fun v => some (.int v)
def rJ : Int64 → Option Value := fun v => some (.long v)
def rR : Option Nat → Option Value := fun v => some (vr v)
def rU : Unit → Option Value := fun _ => none
def eqA : (Nat → Nat) → (Nat → Nat) → Prop := fun a b => b = a
/-- a read of a row, a write's test -/
def rd {α β : Type} (f : Nat → α) (n : Nat) (i : Int32) (k : α → Option β) : Option β := if i < 0 ∨ n ≤ i.toNatClampNeg then none else k (f i.toNatClampNeg)
def wr {β : Type} (n : Nat) (i : Int32) (k : Option β) : Option β := if i < 0 ∨ n ≤ i.toNatClampNeg then none else k
def bz {β : Type} (v : Int32) (k : Option β) : Option β := if v = 0 ∨ v = 1 then k else none
def nz {β : Type} (v : Int32) (k : Option β) : Option β := if v = 0 then none else k
def nzl {β : Type} (v : Int64) (k : Option β) : Option β := if v = 0 then none else k
def pq {α β γ : Type} (f : α → β → γ) (q : α × β) : γ := f q.1 q.2
def rN : Nat → Option Value := fun k => some (.ref k)
theorem nb0 : narrow .boolean (.int 0) = .int 0 := by decide
theorem nb1 : narrow .boolean (.int 1) = .int 1 := by decide
theorem nbz {v : Int32} (h : v = 0 ∨ v = 1) : narrow .boolean (.int v) = .int v := by rcases h with h | h <;> subst h <;> decide
def swp (x : Int32) (lo : Int) (i : Nat) : Prop := ∀ j : Nat, j < i → ¬ x.toInt = lo + j
theorem swp0 {x : Int32} {lo : Int} : swp x lo 0 := fun _ h => absurd h (Nat.not_lt_zero _)
section AR2
variable {S ρ : Type} {z : ZZ} {x : XX} {nL : Nat} {w : (Nat → Nat) → S → va_W} {ra : ρ → Option Value} {F : (Nat → Nat) → Prop} {mc ms k n : Nat} {ad : Nat → Nat} {pc : Nat} {lv : List (Nat × Value)} {st : List Value} {σ σ1 : S} {d d1 d2 : Option (ρ × S)} {cc : ByteArray} {own : String} {ret : Option FieldType}

theorem at_lcmp (hC : CX z ad x cc own nL ret) {a b : Int64} (hd : decode cc pc = .ok (.lcmp, 1)) (kk : AT z x nL w ra F mc ms k n ad (pc + 1) lv (.int (lg_cmp a b) :: st) σ d) : AT z x nL w ra F mc ms k n ad pc lv (.long b :: .long a :: st) σ d := by
  intro r σ' hd' H locs ls hP hD hS hl
  exact W.lcmp hC.1 hC.2.1 hd (kk r σ' hd' H locs ls hP hD hS hl)
theorem at_bz {v : Int32} (kk : v = 0 ∨ v = 1 → AT z x nL w ra F mc ms k n ad pc lv st σ d) : AT z x nL w ra F mc ms k n ad pc lv st σ (bz v d) := by
  intro r σ' hd' H locs ls hP hD hS hl
  unfold bz at hd'
  split at hd'
  · next h => exact kk h r σ' hd' H locs ls hP hD hS hl
  · cases hd'
theorem at_nz {v : Int32} (kk : ¬ v = 0 → AT z x nL w ra F mc ms k n ad pc lv st σ d) : AT z x nL w ra F mc ms k n ad pc lv st σ (nz v d) := by
  intro r σ' hd' H locs ls hP hD hS hl
  unfold nz at hd'
  split at hd'
  · cases hd'
  · next h => exact kk h r σ' hd' H locs ls hP hD hS hl
theorem at_nzl {v : Int64} (kk : ¬ v = 0 → AT z x nL w ra F mc ms k n ad pc lv st σ d) : AT z x nL w ra F mc ms k n ad pc lv st σ (nzl v d) := by
  intro r σ' hd' H locs ls hP hD hS hl
  unfold nzl at hd'
  split at hd'
  · cases hd'
  · next h => exact kk h r σ' hd' H locs ls hP hD hS hl
theorem at_iret  (hC : CX z ad x cc own nL (some .int)) {v : Int32} (hd : decode cc pc = .ok (.ireturn, 1)) (hF : F ad) (h1 : k ≤ mc) (h2 : n ≤ ms) {r0 : ρ} (hr0 : ra r0 = some (.int v)) : AT z x nL w ra F mc ms k n ad pc lv [.int v] σ (some (r0, σ)) := by
  intro r σ' hd' H locs ls hP hD hS hl
  cases hd'
  refine W.widen h1 h2 ?_
  exact W.iret hC.1 hC.2.1 hC.2.2.1 (fun t ht hW => ⟨⟨ad, hF, by rw [hr0]; rfl, by rw [ht]; exact hP, hD⟩, hS.F ht⟩) hS.2.2 hd hC.2.2.2.2.2.2.1
theorem at_zret  (hC : CX z ad x cc own nL (some .boolean)) {v : Int32} (hn : narrow .boolean (.int v) = .int v) (hd : decode cc pc = .ok (.ireturn, 1)) (hF : F ad) (h1 : k ≤ mc) (h2 : n ≤ ms) {r0 : ρ} (hr0 : ra r0 = some (.int v)) : AT z x nL w ra F mc ms k n ad pc lv [.int v] σ (some (r0, σ)) := by
  intro r σ' hd' H locs ls hP hD hS hl
  cases hd'
  refine W.widen h1 h2 ?_
  exact W.zret hC.1 hC.2.1 hC.2.2.1 hn (fun t ht hW => ⟨⟨ad, hF, by rw [hr0]; rfl, by rw [ht]; exact hP, hD⟩, hS.F ht⟩) hS.2.2 hd hC.2.2.2.2.2.2.1
theorem at_lret  (hC : CX z ad x cc own nL (some .long)) {v : Int64} (hd : decode cc pc = .ok (.lreturn, 1)) (hF : F ad) (h1 : k ≤ mc) (h2 : n ≤ ms) {r0 : ρ} (hr0 : ra r0 = some (.long v)) : AT z x nL w ra F mc ms k n ad pc lv [.long v] σ (some (r0, σ)) := by
  intro r σ' hd' H locs ls hP hD hS hl
  cases hd'
  refine W.widen h1 h2 ?_
  exact W.lret hC.1 hC.2.1 hC.2.2.1 (fun t ht hW => ⟨⟨ad, hF, by rw [hr0]; rfl, by rw [ht]; exact hP, hD⟩, hS.F ht⟩) hS.2.2 hd hC.2.2.2.2.2.2.1
theorem at_vret  (hC : CX z ad x cc own nL none)  (hd : decode cc pc = .ok (.return_, 1)) (hF : F ad) (h1 : k ≤ mc) (h2 : n ≤ ms) {r0 : ρ} (hr0 : ra r0 = none) : AT z x nL w ra F mc ms k n ad pc lv [] σ (some (r0, σ)) := by
  intro r σ' hd' H locs ls hP hD hS hl
  cases hd'
  refine W.widen h1 h2 ?_
  exact W.vret hC.1 hC.2.1 hC.2.2.1 (fun t ht hW => ⟨⟨ad, hF, by rw [hr0]; rfl, by rw [ht]; exact hP, hD⟩, hS.F ht⟩) hS.2.2 hd hC.2.2.2.2.2.2.1
theorem at_aret {v : Nat} {C : String} (hC : CX z ad x cc own nL (some (.object C)))  (hd : decode cc pc = .ok (.areturn, 1)) (hF : F ad) (h1 : k ≤ mc) (h2 : n ≤ ms) {r0 : ρ} (hr0 : ra r0 = some (.ref v)) : AT z x nL w ra F mc ms k n ad pc lv [.ref v] σ (some (r0, σ)) := by
  intro r σ' hd' H locs ls hP hD hS hl
  cases hd'
  refine W.widen h1 h2 ?_
  exact W.aret hC.1 hC.2.1 hC.2.2.1 (Or.inl ⟨C, rfl⟩) (Or.inr ⟨ad v, rfl⟩) (fun t ht hW => ⟨⟨ad, hF, by rw [hr0]; rfl, by rw [ht]; exact hP, hD⟩, hS.F ht⟩) hS.2.2 hd hC.2.2.2.2.2.2.1
theorem at_aretN {C : String} (hC : CX z ad x cc own nL (some (.object C)))  (hd : decode cc pc = .ok (.areturn, 1)) (hF : F ad) (h1 : k ≤ mc) (h2 : n ≤ ms) {r0 : ρ} (hr0 : ra r0 = some .null) : AT z x nL w ra F mc ms k n ad pc lv [.null] σ (some (r0, σ)) := by
  intro r σ' hd' H locs ls hP hD hS hl
  cases hd'
  refine W.widen h1 h2 ?_
  exact W.aret hC.1 hC.2.1 hC.2.2.1 (Or.inl ⟨C, rfl⟩) (Or.inl rfl) (fun t ht hW => ⟨⟨ad, hF, by rw [hr0]; rfl, by rw [ht]; exact hP, hD⟩, hS.F ht⟩) hS.2.2 hd hC.2.2.2.2.2.2.1
theorem at_iald (hC : CX z ad x cc own nL ret) {i : Int32} {f : Nat → Int32} {N : Nat} {kd : Int32 → Option (ρ × S)} (q : Nat) (hd : decode cc pc = .ok (.iaload, 1)) (ha : (w ad σ)[q]? = some (ad q, .inl (z.2.2.1 0, N, .inl f))) (kk : ∀ v : Int32, AT z x nL w ra F mc ms k n ad (pc + 1) lv (.int v :: st) σ (kd v)) : AT z x nL w ra F mc ms k n ad pc lv (.int i :: .ref q :: st) σ (rd f N i kd) := by
  intro r σ' hd' H locs ls hP hD hS hl
  unfold rd at hd'
  split at hd'
  · cases hd'
  · next h => exact va_iald hC.1 hC.2.1 hC.2.2.2.2.2.2.2.1 hP q 0 ha rfl h hd (kk _ r σ' hd' H locs ls hP hD hS hl)
theorem at_zald (hC : CX z ad x cc own nL ret) {i : Int32} {f : Nat → Int32} {N : Nat} {kd : Int32 → Option (ρ × S)} (q : Nat) (hd : decode cc pc = .ok (.baload, 1)) (ha : (w ad σ)[q]? = some (ad q, .inl (z.2.2.1 1, N, .inl f))) (kk : ∀ v : Int32, AT z x nL w ra F mc ms k n ad (pc + 1) lv (.int v :: st) σ (kd v)) : AT z x nL w ra F mc ms k n ad pc lv (.int i :: .ref q :: st) σ (rd f N i kd) := by
  intro r σ' hd' H locs ls hP hD hS hl
  unfold rd at hd'
  split at hd'
  · cases hd'
  · next h => exact va_zald hC.1 hC.2.1 hC.2.2.2.2.2.2.2.1 hP q 1 ha rfl h hd (kk _ r σ' hd' H locs ls hP hD hS hl)
theorem at_lald (hC : CX z ad x cc own nL ret) {i : Int32} {f : Nat → Int64} {N : Nat} {kd : Int64 → Option (ρ × S)} (q : Nat) (hd : decode cc pc = .ok (.laload, 1)) (ha : (w ad σ)[q]? = some (ad q, .inl (z.2.2.1 2, N, .inr (.inl f)))) (kk : ∀ v : Int64, AT z x nL w ra F mc ms k n ad (pc + 1) lv (.long v :: st) σ (kd v)) : AT z x nL w ra F mc ms k n ad pc lv (.int i :: .ref q :: st) σ (rd f N i kd) := by
  intro r σ' hd' H locs ls hP hD hS hl
  unfold rd at hd'
  split at hd'
  · cases hd'
  · next h => exact va_lald hC.1 hC.2.1 hC.2.2.2.2.2.2.2.1 hP q 2 ha rfl h hd (kk _ r σ' hd' H locs ls hP hD hS hl)
theorem at_iast (hC : CX z ad x cc own nL ret) {i : Int32} {v : Int32} {f : Nat → Int32} {N : Nat} (q : Nat) (hd : decode cc pc = .ok (.iastore, 1)) (ha : (w ad σ)[q]? = some (ad q, .inl (z.2.2.1 0, N, .inl f))) (hs : (w ad σ).set q (ad q, .inl (z.2.2.1 0, N, .inl (upd f i.toNatClampNeg v))) = w ad σ1) (kk : AT z x nL w ra F mc ms k n ad (pc + 1) lv st σ1 d) : AT z x nL w ra F mc ms k n ad pc lv (.int v :: .int i :: .ref q :: st) σ (wr N i d) := by
  intro r σ' hd' H locs ls hP hD hS hl
  unfold wr at hd'
  split at hd'
  · cases hd'
  · next h =>
    refine va_iast hC.1 hC.2.1 hC.2.2.2.2.2.2.2.1 hP hD hS q 0 ha rfl h hd (fun H1 locs1 hP1 hD1 hS1 => ?_)
    rw [hs] at hP1 hD1
    exact kk r σ' hd' H1 locs1 ls hP1 hD1 hS1 hl
theorem at_zast (hC : CX z ad x cc own nL ret) {i : Int32} {v : Int32} {f : Nat → Int32} {N : Nat} (q : Nat) (hd : decode cc pc = .ok (.bastore, 1)) (ha : (w ad σ)[q]? = some (ad q, .inl (z.2.2.1 1, N, .inl f))) (hs : (w ad σ).set q (ad q, .inl (z.2.2.1 1, N, .inl (upd f i.toNatClampNeg (vp_nar .boolean v)))) = w ad σ1) (kk : AT z x nL w ra F mc ms k n ad (pc + 1) lv st σ1 d) : AT z x nL w ra F mc ms k n ad pc lv (.int v :: .int i :: .ref q :: st) σ (wr N i d) := by
  intro r σ' hd' H locs ls hP hD hS hl
  unfold wr at hd'
  split at hd'
  · cases hd'
  · next h =>
    refine va_zast hC.1 hC.2.1 hC.2.2.2.2.2.2.2.1 hP hD hS q 1 ha rfl h hd (fun H1 locs1 hP1 hD1 hS1 => ?_)
    rw [hs] at hP1 hD1
    exact kk r σ' hd' H1 locs1 ls hP1 hD1 hS1 hl
theorem at_last (hC : CX z ad x cc own nL ret) {i : Int32} {v : Int64} {f : Nat → Int64} {N : Nat} (q : Nat) (hd : decode cc pc = .ok (.lastore, 1)) (ha : (w ad σ)[q]? = some (ad q, .inl (z.2.2.1 2, N, .inr (.inl f)))) (hs : (w ad σ).set q (ad q, .inl (z.2.2.1 2, N, .inr (.inl (vp_updL f i.toNatClampNeg v)))) = w ad σ1) (kk : AT z x nL w ra F mc ms k n ad (pc + 1) lv st σ1 d) : AT z x nL w ra F mc ms k n ad pc lv (.long v :: .int i :: .ref q :: st) σ (wr N i d) := by
  intro r σ' hd' H locs ls hP hD hS hl
  unfold wr at hd'
  split at hd'
  · cases hd'
  · next h =>
    refine va_last hC.1 hC.2.1 hC.2.2.2.2.2.2.2.1 hP hD hS q 2 ha rfl h hd (fun H1 locs1 hP1 hD1 hS1 => ?_)
    rw [hs] at hP1 hD1
    exact kk r σ' hd' H1 locs1 ls hP1 hD1 hS1 hl
theorem at_alen (hC : CX z ad x cc own nL ret) {X : vp_A} {ty : FieldType} {v : Int32} (q ti : Nat) (hd : decode cc pc = .ok (.arraylength, 1)) (ha : (w ad σ)[q]? = some (ad q, .inl (z.2.2.1 ti, X))) (ht : (zty z)[ti]? = some (z.2.2.1 ti, ty)) (hv : Int32.ofNat X.1 = v) (kk : AT z x nL w ra F mc ms k n ad (pc + 1) lv (.int v :: st) σ d) : AT z x nL w ra F mc ms k n ad pc lv (.ref q :: st) σ d := by
  intro r σ' hd' H locs ls hP hD hS hl
  exact va_alen hC.1 hC.2.1 hC.2.2.2.2.2.2.2.1 hP q ti ha ht hv hd (kk r σ' hd' H locs ls hP hD hS hl)
theorem at_get (hC : CX z ad x cc own nL ret) {C : String} {T : u_T} {N ci idx j : Nat} {fs : List Value} {v : Value} (q : Nat) (hd : decode cc pc = .ok (.getfield idx, 3)) (hin : ∀ w ∈ u_ws C T N, w ∈ GW) (he : (w ad σ)[q]? = some (ad q, .inr (ci, fs))) (hc : zcl[ci]? = some (C, T, N)) (hj : j < N) (hlk : Cond.fieldLink own idx C (T j).2.1 (T j).2.2.1 ∈ GW) (hCT : (T j).1 = C) (hv : fs[j]? = some (cv ad v)) (kk : AT z x nL w ra F mc ms k n ad (pc + 3) lv (v :: st) σ d) : AT z x nL w ra F mc ms k n ad pc lv (.ref q :: st) σ d := by
  intro r σ' hd' H locs ls hP hD hS hl
  exact va_get hC.1 hC.2.1 hC.2.2.2.2.2.1 hin hC.2.2.2.2.1 hC.2.2.2.2.2.2.2.1 hP q he hc j hj (hC.2.2.2.2.2.1 _ hlk) (fun y h => by rw [← hCT]; exact h) hv hd (kk r σ' hd' H locs ls hP hD hS hl)
theorem at_put (hC : CX z ad x cc own nL ret) {C : String} {T : u_T} {N ci idx j : Nat} {fs : List Value} {v : Value} {ty : FieldType} {ty0 : Nat → FieldType} (q : Nat) (hd : decode cc pc = .ok (.putfield idx, 3)) (hin : ∀ w ∈ u_ws C T N, w ∈ GW) (hty : ∀ k, k < N → parseFieldDescriptor (T k).2.2.1 = some (ty0 k)) (hnm : ∀ a, a < N → ∀ b, b < N → a ≠ b → (T a).2.1 ≠ (T b).2.1) (he : (w ad σ)[q]? = some (ad q, .inr (ci, fs))) (hc : zcl[ci]? = some (C, T, N)) (hj : j < N) (hlk : Cond.fieldLink own idx C (T j).2.1 (T j).2.2.1 ∈ GW) (hCT : (T j).1 = C) (hfin : (T j).2.2.2 = false) (hpd : parseFieldDescriptor (T j).2.2.1 = some ty) (hn : narrow ty (cv ad v) = cv ad v) (hfit : fits ty (cv ad v) = true) (hl0 : j < fs.length) (hs : (w ad σ).set q (ad q, .inr (ci, fs.set j (cv ad v))) = w ad σ1) (kk : AT z x nL w ra F mc ms k n ad (pc + 3) lv st σ1 d) : AT z x nL w ra F mc ms k n ad pc lv (v :: .ref q :: st) σ d := by
  intro r σ' hd' H locs ls hP hD hS hl
  refine va_put hC.1 hC.2.1 hC.2.2.2.2.2.1 hin ty0 hty hnm hC.2.2.2.2.1 hC.2.2.2.2.2.2.2.1 hP hD hS q he hc j hj (hC.2.2.2.2.2.1 _ hlk) (fun y h => by rw [← hCT]; exact h) hfin hpd hn hfit hl0 hd (fun H1 locs1 hP1 hD1 hS1 => ?_)
  rw [hs] at hP1 hD1
  exact kk r σ' hd' H1 locs1 ls hP1 hD1 hS1 hl
theorem at_sw (hC : CX z ad x cc own nL ret) {dflt lo hi : Int} {offs : Array Int} {len : Nat} {a v : Int32} {off : Int} {tgt : Nat} (i : Nat) (hd : decode cc pc = .ok (.tableswitch dflt lo hi offs, len)) (ho : offs[i]? = some off) (ht : (pc : Int) + off = (tgt : Int)) (hv : v.toInt = lo + i) (hle : lo + i ≤ hi) (hp : swp a lo i) (kt : AT z x nL w ra F mc ms k n ad tgt lv st σ d1) (kf : swp a lo (i + 1) → AT z x nL w ra F mc ms k n ad pc lv (.int a :: st) σ d2) : AT z x nL w ra F mc ms k n ad pc lv (.int a :: st) σ (if a = v then d1 else d2) := by
  intro r σ' hd' H locs ls hP hD hS hl
  by_cases h : a = v
  · rw [if_pos h] at hd'
    subst h
    exact lv_tableIn hC.1 hC.2.1 hd (by omega) (by omega) (off := off) (by rw [hv, show (lo + (i : Int) - lo).toNat = i by omega]; exact ho) ht (kt r σ' hd' H locs ls hP hD hS hl)
  · rw [if_neg h] at hd'
    refine kf (fun j hj => ?_) r σ' hd' H locs ls hP hD hS hl
    rcases Nat.lt_or_ge j i with q | q
    · exact hp j q
    · have e : j = i := by omega
      subst e
      intro he
      exact h (Int32.toInt_inj.mp (by rw [he, hv]))
theorem at_swd (hC : CX z ad x cc own nL ret) {dflt lo hi : Int} {offs : Array Int} {len : Nat} {a : Int32} {tgt : Nat} (i : Nat) (hd : decode cc pc = .ok (.tableswitch dflt lo hi offs, len)) (ht : (pc : Int) + dflt = (tgt : Int)) (hi2 : hi < lo + i) (hp : swp a lo i) (kk : AT z x nL w ra F mc ms k n ad tgt lv st σ d) : AT z x nL w ra F mc ms k n ad pc lv (.int a :: st) σ d := by
  intro r σ' hd' H locs ls hP hD hS hl
  have ho : a.toInt < lo ∨ hi < a.toInt := by
    rcases Int.lt_or_le a.toInt lo with q | q
    · exact Or.inl q
    · rcases Int.lt_or_le hi a.toInt with q2 | q2
      · exact Or.inr q2
      · exact absurd (show a.toInt = lo + ((a.toInt - lo).toNat : Nat) by omega) (hp _ (by omega))
  exact lv_tableOut hC.1 hC.2.1 hd ho ht (kk r σ' hd' H locs ls hP hD hS hl)

theorem blind_PB {S : Type} {z : ZZ} {w : (Nat → Nat) → S → va_W} {ad : Nat → Nat} {σ : S} {av : List Value} : FrameBlind (va_Pc av (PB z w ad σ)) := fun a U g mk q => ⟨q.1, q.2.1.same rfl rfl, q.2.2.1, q.2.2.2⟩
theorem callQ {ρ' : Type} {ra' : ρ' → Option Value} {p : Program} {l : Launch} {e : Env} {R : Room} {s : State} {m : MethodId} {args : Array Value} {below : List Frame} {meth : Method} {c : Code} {H : Heap} {locs : List Loc} {cells slots mc' ms' : Nat} {Q : State → Prop} {ls : Array Slot} {st0 rest : List Value} {a : Array Value} {E : (Nat → Nat) → Prop} {r : ρ'}
    (hr : va_Run p l e R s m args below meth c H locs cells slots mc' ms' (F0 m pc ls st0) rest (QA z w ra' E r σ1 a) (zA z)) (hS : va_S (zA z) s.heap H locs)
    (kk : ∀ (ad' : Nat → Nat) (H1 : Heap) (locs1 : List Loc), E ad' → va_P z.2.1 zcl (w ad' σ1) H1 → va_D (zA z) (w ad' σ1) → va_S (zA z) s.heap H1 locs1 → W p l e R s m args below meth c H1 locs1 (cells + mc') (slots + ms') Q (F0 m (pc + 3) ls (((ra' r).map (cv ad')).toList ++ rest))) : W p l e R s m args below meth c H locs cells slots Q (F0 m pc ls st0) := by
  intro T hT X
  obtain ⟨v, st₀, t, T', L, h0, X', hL, e1, e2, ⟨⟨ad', hE, hv, hP, hD⟩, hz, hk⟩, st⟩ := hr T hT X
  cases hv
  rw [h0] at hz hk
  obtain ⟨t2, a1, b1⟩ := kk ad' T'.heap (locs ++ L) hE (by rw [e1]; exact hP) hD
    ⟨Nat.le_trans hS.1 (by rw [e1]; exact hz), fun q h1 h2 => by rw [e1, hk q (Nat.lt_of_lt_of_le h1 hS.1) h2]; exact hS.2.1 q h1 h2, fun q hq => by
      rcases List.mem_append.mp hq with h | h
      · exact hS.2.2 q h
      · exact hL q h⟩ T' rfl X'
  exact ⟨t2, st t2 a1, b1⟩

theorem at_callV (hC : CX z ad x cc own nL ret) {h mcR msR : Nat} (hR : x.2.2.1 = rmk h mcR msR) {ρ' : Type} {ra' : ρ' → Option Value} {y : MethodName} {cc' : ByteArray} {maxL' : Nat} {ret' : Option FieldType} {h' idx na q : Nat} {As rest : List Value} {f : Option (ρ' × S)} {kd : ρ' × S → Option (ρ × S)} (lk : LkV own idx y cc' maxL' ret' na) (hM : Ct z w ra' eqA y cc' maxL' ret' h' 0 0 (.ref q :: As) σ f) (hd : decode cc pc = .ok (.invokevirtual idx, 3)) (hrec : ∃ ci fs r, zcl[ci]? = some r ∧ r.1 = y.cls ∧ (w ad σ)[q]? = some (ad q, .inr (ci, fs))) (hn : As.length = na) (hst : st = As.reverse ++ .ref q :: rest) (hh : h' + 1 ≤ h ∧ maxL' ≤ 45) (hW : (rest.map fun v => v.category).sum ≤ 8) (hk : k ≤ mcR ∧ n ≤ msR) (kk : ∀ r σ1, f = some (r, σ1) → AT z x nL w ra F mc ms k n ad (pc + 3) lv ((ra' r).toList ++ rest) σ1 (kd (r, σ1))) : AT z x nL w ra F mc ms k n ad pc lv st σ (f.bind kd) := by
  intro r σ' hd' H locs ls hP hD hS hl
  cases hf : f with
  | none => rw [hf] at hd'; cases hd'
  | some p0 =>
    obtain ⟨r0, σ1⟩ := p0
    rw [hf] at hd'
    subst hst
    have hcw := (hC.2.2.2.2.2.1)
    have hroom : (rmk h' 0 0).frames + 1 ≤ x.2.2.1.frames ∧ 8 + (maxL' + 11) + (rmk h' 0 0).locals ≤ x.2.2.1.locals := by
      rw [hR]; simp only [rmk]; omega
    have hcs : k + 0 ≤ x.2.2.1.cells ∧ n + 0 ≤ x.2.2.1.slots := by
      rw [hR]; simp only [rmk]; omega
    obtain ⟨ci, fs, rc, hrc1, hrc2, hrc3⟩ := hrec
    refine callQ (σ1 := σ1) (va_runV (As := As.map (cv ad)) (rest := rest.map (cv ad)) (C := y.cls) (b := ad q) ⟨hC.1, hC.2.1, hC.2.2.2.1, hC.2.2.2.2.1, hcw⟩ (hM r0 σ1 hf ad) (cwV na hcw (gi_cons lk.1 (gi_cons lk.2.1 (gi_cons lk.2.2.1 (gi_cons lk.2.2.2.1 (gi_cons lk.2.2.2.2.1 gi_self))))) rfl rfl rfl ⟨rfl, lk.2.2.2.2.2.1.1, lk.2.2.2.2.2.1.2, lk.2.2.2.2.2.2⟩ hroom) ⟨blind_PB, ?_, fun U hU hW => ⟨rfl, hC.2.2.2.2.2.2.2.step hW hU hS, by rw [hU]; exact hP, hD⟩⟩ rfl (by rw [List.length_map]; exact hn) hl.1 (by simp [cv, List.map_reverse]) (lv_room (by rw [List.map_map]; simpa [Function.comp_def, cv_cat] using hW)) hd hcs) hS (fun ad' H1 locs1 hE hP1 hD1 hS1 => ?_)
    · rw [← hrc2]; exact va_recv hC.2.2.2.2.2.2.2.1 hP hrc1 hrc3
    · cases hE
      have := kk r0 σ1 hf r σ' hd' H1 locs1 ls hP1 hD1 hS1 hl
      rw [List.map_append] at this
      cases hq : ra' r0 <;> simpa [hq] using this
theorem at_callS (hC : CX z ad x cc own nL ret) {h mcR msR : Nat} (hR : x.2.2.1 = rmk h mcR msR) {ρ' : Type} {ra' : ρ' → Option Value} {y : MethodName} {cc' : ByteArray} {maxL' : Nat} {ret' : Option FieldType} {h' idx na : Nat} {As rest : List Value} {f : Option (ρ' × S)} {kd : ρ' × S → Option (ρ × S)} (lk : LkS own idx y cc' maxL' ret' na) (hM : Ct z w ra' eqA y cc' maxL' ret' h' 0 0 (As) σ f) (hd : decode cc pc = .ok (.invokestatic idx, 3)) (hn : As.length = na) (hst : st = As.reverse ++ rest) (hh : h' + 1 ≤ h ∧ maxL' ≤ 45) (hW : (rest.map fun v => v.category).sum ≤ 8) (hk : k ≤ mcR ∧ n ≤ msR) (kk : ∀ r σ1, f = some (r, σ1) → AT z x nL w ra F mc ms k n ad (pc + 3) lv ((ra' r).toList ++ rest) σ1 (kd (r, σ1))) : AT z x nL w ra F mc ms k n ad pc lv st σ (f.bind kd) := by
  intro r σ' hd' H locs ls hP hD hS hl
  cases hf : f with
  | none => rw [hf] at hd'; cases hd'
  | some p0 =>
    obtain ⟨r0, σ1⟩ := p0
    rw [hf] at hd'
    subst hst
    have hcw := (hC.2.2.2.2.2.1)
    have hroom : (rmk h' 0 0).frames + 1 ≤ x.2.2.1.frames ∧ 8 + (maxL' + 11) + (rmk h' 0 0).locals ≤ x.2.2.1.locals := by
      rw [hR]; simp only [rmk]; omega
    have hcs : k + 0 ≤ x.2.2.1.cells ∧ n + 0 ≤ x.2.2.1.slots := by
      rw [hR]; simp only [rmk]; omega
    refine callQ (σ1 := σ1) (va_runS (As := As.map (cv ad)) (rest := rest.map (cv ad)) ⟨hC.1, hC.2.1, hC.2.2.2.1, hC.2.2.2.2.1, hcw⟩ (hM r0 σ1 hf ad) ⟨callB_of na hcw (gi_cons lk.2.2.2.1 gi_self) rfl rfl rfl (hcw _ lk.2.2.1) (hcw _ lk.1) ⟨lk.2.2.2.2.1.1, lk.2.2.2.2.1.2, lk.2.2.2.2.2⟩ hroom, hcw _ lk.2.1⟩ ⟨blind_PB, fun U hU hW => ⟨rfl, hC.2.2.2.2.2.2.2.step hW hU hS, by rw [hU]; exact hP, hD⟩⟩ rfl (by rw [List.length_map]; exact hn) hl.1 (by simp [List.map_reverse]) (lv_room (by rw [List.map_map]; simpa [Function.comp_def, cv_cat] using hW)) hd hcs) hS (fun ad' H1 locs1 hE hP1 hD1 hS1 => ?_)
    cases hE
    have := kk r0 σ1 hf r σ' hd' H1 locs1 ls hP1 hD1 hS1 hl
    rw [List.map_append] at this
    cases hq : ra' r0 <;> simpa [hq] using this
end AR2
section AR3
variable {S ρ ζ : Type} {z : ZZ} {x : XX} {nL : Nat} {w : (Nat → Nat) → S → va_W} {ra : ρ → Option Value} {F : (Nat → Nat) → Prop} {mc ms k n : Nat} {ad : Nat → Nat} {pc : Nat} {lv : List (Nat × Value)} {st : List Value} {σ σ1 : S} {d d1 d2 : Option ζ} {g : ζ → ρ × S} {cc : ByteArray} {own : String} {ret : Option FieldType}
theorem ap_icmp_eq (hC : CX z ad x cc own nL ret) {a b : Int32} {off : Int} {tgt : Nat} (hd : decode cc pc = .ok (.if_icmp .eq off, 3)) (ht : (pc : Int) + off = (tgt : Int)) (kt : a = b → AT z x nL w ra F mc ms k n ad tgt lv st σ (d1.map g)) (kf : ¬ (a = b) → AT z x nL w ra F mc ms k n ad (pc + 3) lv st σ (d2.map g)) : AT z x nL w ra F mc ms k n ad pc lv (.int b :: .int a :: st) σ ((if a = b then d1 else d2).map g) := by
  intro r σ' hd' H locs ls hP hD hS hl
  refine lv_icmp_eq hC.1 hC.2.1 hd ht (fun h => ?_) (fun h => ?_)
  · rw [if_pos h] at hd'; exact kt h r σ' hd' H locs ls hP hD hS hl
  · rw [if_neg h] at hd'; exact kf h r σ' hd' H locs ls hP hD hS hl
theorem ap_if_eq (hC : CX z ad x cc own nL ret) {a : Int32} {off : Int} {tgt : Nat} (hd : decode cc pc = .ok (.ifCond .eq off, 3)) (ht : (pc : Int) + off = (tgt : Int)) (kt : a = 0 → AT z x nL w ra F mc ms k n ad tgt lv st σ (d1.map g)) (kf : ¬ (a = 0) → AT z x nL w ra F mc ms k n ad (pc + 3) lv st σ (d2.map g)) : AT z x nL w ra F mc ms k n ad pc lv (.int a :: st) σ ((if a = 0 then d1 else d2).map g) := by
  intro r σ' hd' H locs ls hP hD hS hl
  refine lv_if_eq hC.1 hC.2.1 hd ht (fun h => ?_) (fun h => ?_)
  · rw [if_pos h] at hd'; exact kt h r σ' hd' H locs ls hP hD hS hl
  · rw [if_neg h] at hd'; exact kf h r σ' hd' H locs ls hP hD hS hl
theorem ap_icmp_ne (hC : CX z ad x cc own nL ret) {a b : Int32} {off : Int} {tgt : Nat} (hd : decode cc pc = .ok (.if_icmp .ne off, 3)) (ht : (pc : Int) + off = (tgt : Int)) (kt : ¬ (a = b) → AT z x nL w ra F mc ms k n ad tgt lv st σ (d1.map g)) (kf : a = b → AT z x nL w ra F mc ms k n ad (pc + 3) lv st σ (d2.map g)) : AT z x nL w ra F mc ms k n ad pc lv (.int b :: .int a :: st) σ ((if a = b then d2 else d1).map g) := by
  intro r σ' hd' H locs ls hP hD hS hl
  refine lv_icmp_ne hC.1 hC.2.1 hd ht (fun h => ?_) (fun h => ?_)
  · rw [if_neg h] at hd'; exact kt h r σ' hd' H locs ls hP hD hS hl
  · rw [if_pos h] at hd'; exact kf h r σ' hd' H locs ls hP hD hS hl
theorem ap_if_ne (hC : CX z ad x cc own nL ret) {a : Int32} {off : Int} {tgt : Nat} (hd : decode cc pc = .ok (.ifCond .ne off, 3)) (ht : (pc : Int) + off = (tgt : Int)) (kt : ¬ (a = 0) → AT z x nL w ra F mc ms k n ad tgt lv st σ (d1.map g)) (kf : a = 0 → AT z x nL w ra F mc ms k n ad (pc + 3) lv st σ (d2.map g)) : AT z x nL w ra F mc ms k n ad pc lv (.int a :: st) σ ((if a = 0 then d2 else d1).map g) := by
  intro r σ' hd' H locs ls hP hD hS hl
  refine lv_if_ne hC.1 hC.2.1 hd ht (fun h => ?_) (fun h => ?_)
  · rw [if_neg h] at hd'; exact kt h r σ' hd' H locs ls hP hD hS hl
  · rw [if_pos h] at hd'; exact kf h r σ' hd' H locs ls hP hD hS hl
theorem ap_icmp_lt (hC : CX z ad x cc own nL ret) {a b : Int32} {off : Int} {tgt : Nat} (hd : decode cc pc = .ok (.if_icmp .lt off, 3)) (ht : (pc : Int) + off = (tgt : Int)) (kt : a < b → AT z x nL w ra F mc ms k n ad tgt lv st σ (d1.map g)) (kf : ¬ (a < b) → AT z x nL w ra F mc ms k n ad (pc + 3) lv st σ (d2.map g)) : AT z x nL w ra F mc ms k n ad pc lv (.int b :: .int a :: st) σ ((if a < b then d1 else d2).map g) := by
  intro r σ' hd' H locs ls hP hD hS hl
  refine lv_icmp_lt hC.1 hC.2.1 hd ht (fun h => ?_) (fun h => ?_)
  · rw [if_pos h] at hd'; exact kt h r σ' hd' H locs ls hP hD hS hl
  · rw [if_neg h] at hd'; exact kf h r σ' hd' H locs ls hP hD hS hl
theorem ap_if_lt (hC : CX z ad x cc own nL ret) {a : Int32} {off : Int} {tgt : Nat} (hd : decode cc pc = .ok (.ifCond .lt off, 3)) (ht : (pc : Int) + off = (tgt : Int)) (kt : a < 0 → AT z x nL w ra F mc ms k n ad tgt lv st σ (d1.map g)) (kf : ¬ (a < 0) → AT z x nL w ra F mc ms k n ad (pc + 3) lv st σ (d2.map g)) : AT z x nL w ra F mc ms k n ad pc lv (.int a :: st) σ ((if a < 0 then d1 else d2).map g) := by
  intro r σ' hd' H locs ls hP hD hS hl
  refine lv_if_lt hC.1 hC.2.1 hd ht (fun h => ?_) (fun h => ?_)
  · rw [if_pos h] at hd'; exact kt h r σ' hd' H locs ls hP hD hS hl
  · rw [if_neg h] at hd'; exact kf h r σ' hd' H locs ls hP hD hS hl
theorem ap_icmp_ge (hC : CX z ad x cc own nL ret) {a b : Int32} {off : Int} {tgt : Nat} (hd : decode cc pc = .ok (.if_icmp .ge off, 3)) (ht : (pc : Int) + off = (tgt : Int)) (kt : b ≤ a → AT z x nL w ra F mc ms k n ad tgt lv st σ (d1.map g)) (kf : ¬ (b ≤ a) → AT z x nL w ra F mc ms k n ad (pc + 3) lv st σ (d2.map g)) : AT z x nL w ra F mc ms k n ad pc lv (.int b :: .int a :: st) σ ((if b ≤ a then d1 else d2).map g) := by
  intro r σ' hd' H locs ls hP hD hS hl
  refine lv_icmp_ge hC.1 hC.2.1 hd ht (fun h => ?_) (fun h => ?_)
  · rw [if_pos h] at hd'; exact kt h r σ' hd' H locs ls hP hD hS hl
  · rw [if_neg h] at hd'; exact kf h r σ' hd' H locs ls hP hD hS hl
theorem ap_if_ge (hC : CX z ad x cc own nL ret) {a : Int32} {off : Int} {tgt : Nat} (hd : decode cc pc = .ok (.ifCond .ge off, 3)) (ht : (pc : Int) + off = (tgt : Int)) (kt : 0 ≤ a → AT z x nL w ra F mc ms k n ad tgt lv st σ (d1.map g)) (kf : ¬ (0 ≤ a) → AT z x nL w ra F mc ms k n ad (pc + 3) lv st σ (d2.map g)) : AT z x nL w ra F mc ms k n ad pc lv (.int a :: st) σ ((if 0 ≤ a then d1 else d2).map g) := by
  intro r σ' hd' H locs ls hP hD hS hl
  refine lv_if_ge hC.1 hC.2.1 hd ht (fun h => ?_) (fun h => ?_)
  · rw [if_pos h] at hd'; exact kt h r σ' hd' H locs ls hP hD hS hl
  · rw [if_neg h] at hd'; exact kf h r σ' hd' H locs ls hP hD hS hl
theorem ap_icmp_gt (hC : CX z ad x cc own nL ret) {a b : Int32} {off : Int} {tgt : Nat} (hd : decode cc pc = .ok (.if_icmp .gt off, 3)) (ht : (pc : Int) + off = (tgt : Int)) (kt : b < a → AT z x nL w ra F mc ms k n ad tgt lv st σ (d1.map g)) (kf : ¬ (b < a) → AT z x nL w ra F mc ms k n ad (pc + 3) lv st σ (d2.map g)) : AT z x nL w ra F mc ms k n ad pc lv (.int b :: .int a :: st) σ ((if b < a then d1 else d2).map g) := by
  intro r σ' hd' H locs ls hP hD hS hl
  refine lv_icmp_gt hC.1 hC.2.1 hd ht (fun h => ?_) (fun h => ?_)
  · rw [if_pos h] at hd'; exact kt h r σ' hd' H locs ls hP hD hS hl
  · rw [if_neg h] at hd'; exact kf h r σ' hd' H locs ls hP hD hS hl
theorem ap_if_gt (hC : CX z ad x cc own nL ret) {a : Int32} {off : Int} {tgt : Nat} (hd : decode cc pc = .ok (.ifCond .gt off, 3)) (ht : (pc : Int) + off = (tgt : Int)) (kt : 0 < a → AT z x nL w ra F mc ms k n ad tgt lv st σ (d1.map g)) (kf : ¬ (0 < a) → AT z x nL w ra F mc ms k n ad (pc + 3) lv st σ (d2.map g)) : AT z x nL w ra F mc ms k n ad pc lv (.int a :: st) σ ((if 0 < a then d1 else d2).map g) := by
  intro r σ' hd' H locs ls hP hD hS hl
  refine lv_if_gt hC.1 hC.2.1 hd ht (fun h => ?_) (fun h => ?_)
  · rw [if_pos h] at hd'; exact kt h r σ' hd' H locs ls hP hD hS hl
  · rw [if_neg h] at hd'; exact kf h r σ' hd' H locs ls hP hD hS hl
theorem ap_icmp_le (hC : CX z ad x cc own nL ret) {a b : Int32} {off : Int} {tgt : Nat} (hd : decode cc pc = .ok (.if_icmp .le off, 3)) (ht : (pc : Int) + off = (tgt : Int)) (kt : a ≤ b → AT z x nL w ra F mc ms k n ad tgt lv st σ (d1.map g)) (kf : ¬ (a ≤ b) → AT z x nL w ra F mc ms k n ad (pc + 3) lv st σ (d2.map g)) : AT z x nL w ra F mc ms k n ad pc lv (.int b :: .int a :: st) σ ((if a ≤ b then d1 else d2).map g) := by
  intro r σ' hd' H locs ls hP hD hS hl
  refine lv_icmp_le hC.1 hC.2.1 hd ht (fun h => ?_) (fun h => ?_)
  · rw [if_pos h] at hd'; exact kt h r σ' hd' H locs ls hP hD hS hl
  · rw [if_neg h] at hd'; exact kf h r σ' hd' H locs ls hP hD hS hl
theorem ap_if_le (hC : CX z ad x cc own nL ret) {a : Int32} {off : Int} {tgt : Nat} (hd : decode cc pc = .ok (.ifCond .le off, 3)) (ht : (pc : Int) + off = (tgt : Int)) (kt : a ≤ 0 → AT z x nL w ra F mc ms k n ad tgt lv st σ (d1.map g)) (kf : ¬ (a ≤ 0) → AT z x nL w ra F mc ms k n ad (pc + 3) lv st σ (d2.map g)) : AT z x nL w ra F mc ms k n ad pc lv (.int a :: st) σ ((if a ≤ 0 then d1 else d2).map g) := by
  intro r σ' hd' H locs ls hP hD hS hl
  refine lv_if_le hC.1 hC.2.1 hd ht (fun h => ?_) (fun h => ?_)
  · rw [if_pos h] at hd'; exact kt h r σ' hd' H locs ls hP hD hS hl
  · rw [if_neg h] at hd'; exact kf h r σ' hd' H locs ls hP hD hS hl
theorem ap_bz {v : Int32} (kk : v = 0 ∨ v = 1 → AT z x nL w ra F mc ms k n ad pc lv st σ (d.map g)) : AT z x nL w ra F mc ms k n ad pc lv st σ ((bz v d).map g) := by
  intro r σ' hd' H locs ls hP hD hS hl
  unfold bz at hd'
  split at hd'
  · next h => exact kk h r σ' hd' H locs ls hP hD hS hl
  · cases hd'
theorem ap_nz {v : Int32} (kk : ¬ v = 0 → AT z x nL w ra F mc ms k n ad pc lv st σ (d.map g)) : AT z x nL w ra F mc ms k n ad pc lv st σ ((nz v d).map g) := by
  intro r σ' hd' H locs ls hP hD hS hl
  unfold nz at hd'
  split at hd'
  · cases hd'
  · next h => exact kk h r σ' hd' H locs ls hP hD hS hl
theorem ap_nzl {v : Int64} (kk : ¬ v = 0 → AT z x nL w ra F mc ms k n ad pc lv st σ (d.map g)) : AT z x nL w ra F mc ms k n ad pc lv st σ ((nzl v d).map g) := by
  intro r σ' hd' H locs ls hP hD hS hl
  unfold nzl at hd'
  split at hd'
  · cases hd'
  · next h => exact kk h r σ' hd' H locs ls hP hD hS hl
theorem ap_iald (hC : CX z ad x cc own nL ret) {i : Int32} {f : Nat → Int32} {N : Nat} {kd : Int32 → Option ζ} (q : Nat) (hd : decode cc pc = .ok (.iaload, 1)) (ha : (w ad σ)[q]? = some (ad q, .inl (z.2.2.1 0, N, .inl f))) (kk : ∀ v : Int32, AT z x nL w ra F mc ms k n ad (pc + 1) lv (.int v :: st) σ ((kd v).map g)) : AT z x nL w ra F mc ms k n ad pc lv (.int i :: .ref q :: st) σ ((rd f N i kd).map g) := by
  intro r σ' hd' H locs ls hP hD hS hl
  unfold rd at hd'
  split at hd'
  · cases hd'
  · next h => exact va_iald hC.1 hC.2.1 hC.2.2.2.2.2.2.2.1 hP q 0 ha rfl h hd (kk _ r σ' hd' H locs ls hP hD hS hl)
theorem ap_zald (hC : CX z ad x cc own nL ret) {i : Int32} {f : Nat → Int32} {N : Nat} {kd : Int32 → Option ζ} (q : Nat) (hd : decode cc pc = .ok (.baload, 1)) (ha : (w ad σ)[q]? = some (ad q, .inl (z.2.2.1 1, N, .inl f))) (kk : ∀ v : Int32, AT z x nL w ra F mc ms k n ad (pc + 1) lv (.int v :: st) σ ((kd v).map g)) : AT z x nL w ra F mc ms k n ad pc lv (.int i :: .ref q :: st) σ ((rd f N i kd).map g) := by
  intro r σ' hd' H locs ls hP hD hS hl
  unfold rd at hd'
  split at hd'
  · cases hd'
  · next h => exact va_zald hC.1 hC.2.1 hC.2.2.2.2.2.2.2.1 hP q 1 ha rfl h hd (kk _ r σ' hd' H locs ls hP hD hS hl)
theorem ap_lald (hC : CX z ad x cc own nL ret) {i : Int32} {f : Nat → Int64} {N : Nat} {kd : Int64 → Option ζ} (q : Nat) (hd : decode cc pc = .ok (.laload, 1)) (ha : (w ad σ)[q]? = some (ad q, .inl (z.2.2.1 2, N, .inr (.inl f)))) (kk : ∀ v : Int64, AT z x nL w ra F mc ms k n ad (pc + 1) lv (.long v :: st) σ ((kd v).map g)) : AT z x nL w ra F mc ms k n ad pc lv (.int i :: .ref q :: st) σ ((rd f N i kd).map g) := by
  intro r σ' hd' H locs ls hP hD hS hl
  unfold rd at hd'
  split at hd'
  · cases hd'
  · next h => exact va_lald hC.1 hC.2.1 hC.2.2.2.2.2.2.2.1 hP q 2 ha rfl h hd (kk _ r σ' hd' H locs ls hP hD hS hl)
theorem ap_sw (hC : CX z ad x cc own nL ret) {dflt lo hi : Int} {offs : Array Int} {len : Nat} {a v : Int32} {off : Int} {tgt : Nat} (i : Nat) (hd : decode cc pc = .ok (.tableswitch dflt lo hi offs, len)) (ho : offs[i]? = some off) (ht : (pc : Int) + off = (tgt : Int)) (hv : v.toInt = lo + i) (hle : lo + i ≤ hi) (hp : swp a lo i) (kt : AT z x nL w ra F mc ms k n ad tgt lv st σ (d1.map g)) (kf : swp a lo (i + 1) → AT z x nL w ra F mc ms k n ad pc lv (.int a :: st) σ (d2.map g)) : AT z x nL w ra F mc ms k n ad pc lv (.int a :: st) σ ((if a = v then d1 else d2).map g) := by
  intro r σ' hd' H locs ls hP hD hS hl
  by_cases h : a = v
  · rw [if_pos h] at hd'
    subst h
    exact lv_tableIn hC.1 hC.2.1 hd (by omega) (by omega) (off := off) (by rw [hv, show (lo + (i : Int) - lo).toNat = i by omega]; exact ho) ht (kt r σ' hd' H locs ls hP hD hS hl)
  · rw [if_neg h] at hd'
    refine kf (fun j hj => ?_) r σ' hd' H locs ls hP hD hS hl
    rcases Nat.lt_or_ge j i with q | q
    · exact hp j q
    · have e : j = i := by omega
      subst e
      intro he
      exact h (Int32.toInt_inj.mp (by rw [he, hv]))
theorem ap_none : AT z x nL w ra F mc ms k n ad pc lv st σ ((none : Option ζ).map g) := fun _ _ h => by cases h
theorem at_callVp (hC : CX z ad x cc own nL ret) {h mcR msR : Nat} (hR : x.2.2.1 = rmk h mcR msR) {ρ' : Type} {ra' : ρ' → Option Value} {y : MethodName} {cc' : ByteArray} {maxL' : Nat} {ret' : Option FieldType} {h' idx na q : Nat} {As rest : List Value} {f : Option ρ'} {kd : ρ' → Option (ρ × S)} (lk : LkV own idx y cc' maxL' ret' na) (hM : Ct z w ra' eqA y cc' maxL' ret' h' 0 0 (.ref q :: As) σ (f.map fun r => (r, σ))) (hd : decode cc pc = .ok (.invokevirtual idx, 3)) (hrec : ∃ ci fs r, zcl[ci]? = some r ∧ r.1 = y.cls ∧ (w ad σ)[q]? = some (ad q, .inr (ci, fs))) (hn : As.length = na) (hst : st = As.reverse ++ .ref q :: rest) (hh : h' + 1 ≤ h ∧ maxL' ≤ 45) (hW : (rest.map fun v => v.category).sum ≤ 8) (hk : k ≤ mcR ∧ n ≤ msR) (kk : ∀ r, f = some r → AT z x nL w ra F mc ms k n ad (pc + 3) lv ((ra' r).toList ++ rest) σ (kd r)) : AT z x nL w ra F mc ms k n ad pc lv st σ (f.bind kd) := by
  have e : f.bind kd = (f.map fun r => (r, σ)).bind (fun q => kd q.1) := by cases f <;> rfl
  rw [e]
  refine at_callV hC hR lk hM hd hrec hn hst hh hW hk (fun r σ1 hf => ?_)
  cases hq : f with
  | none => rw [hq] at hf; cases hf
  | some v => rw [hq] at hf; cases hf; exact kk _ hq
theorem ap_callV (hC : CX z ad x cc own nL ret) {h mcR msR : Nat} (hR : x.2.2.1 = rmk h mcR msR) {ρ' : Type} {ra' : ρ' → Option Value} {y : MethodName} {cc' : ByteArray} {maxL' : Nat} {ret' : Option FieldType} {h' idx na q : Nat} {As rest : List Value} {f : Option ρ'} {kd : ρ' → Option ζ} (lk : LkV own idx y cc' maxL' ret' na) (hM : Ct z w ra' eqA y cc' maxL' ret' h' 0 0 (.ref q :: As) σ (f.map fun r => (r, σ))) (hd : decode cc pc = .ok (.invokevirtual idx, 3)) (hrec : ∃ ci fs r, zcl[ci]? = some r ∧ r.1 = y.cls ∧ (w ad σ)[q]? = some (ad q, .inr (ci, fs))) (hn : As.length = na) (hst : st = As.reverse ++ .ref q :: rest) (hh : h' + 1 ≤ h ∧ maxL' ≤ 45) (hW : (rest.map fun v => v.category).sum ≤ 8) (hk : k ≤ mcR ∧ n ≤ msR) (kk : ∀ r, f = some r → AT z x nL w ra F mc ms k n ad (pc + 3) lv ((ra' r).toList ++ rest) σ ((kd r).map g)) : AT z x nL w ra F mc ms k n ad pc lv st σ ((f.bind kd).map g) := by
  have e : (f.bind kd).map g = f.bind (fun r => (kd r).map g) := by cases f <;> rfl
  rw [e]
  exact at_callVp hC hR lk hM hd hrec hn hst hh hW hk kk
theorem at_callSp (hC : CX z ad x cc own nL ret) {h mcR msR : Nat} (hR : x.2.2.1 = rmk h mcR msR) {ρ' : Type} {ra' : ρ' → Option Value} {y : MethodName} {cc' : ByteArray} {maxL' : Nat} {ret' : Option FieldType} {h' idx na : Nat} {As rest : List Value} {f : Option ρ'} {kd : ρ' → Option (ρ × S)} (lk : LkS own idx y cc' maxL' ret' na) (hM : Ct z w ra' eqA y cc' maxL' ret' h' 0 0 (As) σ (f.map fun r => (r, σ))) (hd : decode cc pc = .ok (.invokestatic idx, 3)) (hn : As.length = na) (hst : st = As.reverse ++ rest) (hh : h' + 1 ≤ h ∧ maxL' ≤ 45) (hW : (rest.map fun v => v.category).sum ≤ 8) (hk : k ≤ mcR ∧ n ≤ msR) (kk : ∀ r, f = some r → AT z x nL w ra F mc ms k n ad (pc + 3) lv ((ra' r).toList ++ rest) σ (kd r)) : AT z x nL w ra F mc ms k n ad pc lv st σ (f.bind kd) := by
  have e : f.bind kd = (f.map fun r => (r, σ)).bind (fun q => kd q.1) := by cases f <;> rfl
  rw [e]
  refine at_callS hC hR lk hM hd hn hst hh hW hk (fun r σ1 hf => ?_)
  cases hq : f with
  | none => rw [hq] at hf; cases hf
  | some v => rw [hq] at hf; cases hf; exact kk _ hq
theorem ap_callS (hC : CX z ad x cc own nL ret) {h mcR msR : Nat} (hR : x.2.2.1 = rmk h mcR msR) {ρ' : Type} {ra' : ρ' → Option Value} {y : MethodName} {cc' : ByteArray} {maxL' : Nat} {ret' : Option FieldType} {h' idx na : Nat} {As rest : List Value} {f : Option ρ'} {kd : ρ' → Option ζ} (lk : LkS own idx y cc' maxL' ret' na) (hM : Ct z w ra' eqA y cc' maxL' ret' h' 0 0 (As) σ (f.map fun r => (r, σ))) (hd : decode cc pc = .ok (.invokestatic idx, 3)) (hn : As.length = na) (hst : st = As.reverse ++ rest) (hh : h' + 1 ≤ h ∧ maxL' ≤ 45) (hW : (rest.map fun v => v.category).sum ≤ 8) (hk : k ≤ mcR ∧ n ≤ msR) (kk : ∀ r, f = some r → AT z x nL w ra F mc ms k n ad (pc + 3) lv ((ra' r).toList ++ rest) σ ((kd r).map g)) : AT z x nL w ra F mc ms k n ad pc lv st σ ((f.bind kd).map g) := by
  have e : (f.bind kd).map g = f.bind (fun r => (kd r).map g) := by cases f <;> rfl
  rw [e]
  exact at_callSp hC hR lk hM hd hn hst hh hW hk kk
theorem at_callVI (hC : CX z ad x cc own nL ret) {h mcR msR : Nat} (hR : x.2.2.1 = rmk h mcR msR) {y : MethodName} {cc' : ByteArray} {maxL' : Nat} {ret' : Option FieldType} {h' idx na q : Nat} {As rest : List Value} {f : Option (Int32 × S)} {kd : Int32 → S → Option (ρ × S)} (lk : LkV own idx y cc' maxL' ret' na) (hM : Ct z w rI eqA y cc' maxL' ret' h' 0 0 (.ref q :: As) σ f) (hd : decode cc pc = .ok (.invokevirtual idx, 3)) (hrec : ∃ ci fs r, zcl[ci]? = some r ∧ r.1 = y.cls ∧ (w ad σ)[q]? = some (ad q, .inr (ci, fs))) (hn : As.length = na) (hst : st = As.reverse ++ .ref q :: rest) (hh : h' + 1 ≤ h ∧ maxL' ≤ 45) (hW : (rest.map fun v => v.category).sum ≤ 8) (hk : k ≤ mcR ∧ n ≤ msR) (kk : ∀ r σ1, f = some (r, σ1) → AT z x nL w ra F mc ms k n ad (pc + 3) lv (.int r :: rest) σ1 (kd r σ1)) : AT z x nL w ra F mc ms k n ad pc lv st σ (f.bind (pq kd)) := at_callV (ra' := rI) hC hR lk hM hd hrec hn hst hh hW hk kk
theorem at_callVJ (hC : CX z ad x cc own nL ret) {h mcR msR : Nat} (hR : x.2.2.1 = rmk h mcR msR) {y : MethodName} {cc' : ByteArray} {maxL' : Nat} {ret' : Option FieldType} {h' idx na q : Nat} {As rest : List Value} {f : Option (Int64 × S)} {kd : Int64 → S → Option (ρ × S)} (lk : LkV own idx y cc' maxL' ret' na) (hM : Ct z w rJ eqA y cc' maxL' ret' h' 0 0 (.ref q :: As) σ f) (hd : decode cc pc = .ok (.invokevirtual idx, 3)) (hrec : ∃ ci fs r, zcl[ci]? = some r ∧ r.1 = y.cls ∧ (w ad σ)[q]? = some (ad q, .inr (ci, fs))) (hn : As.length = na) (hst : st = As.reverse ++ .ref q :: rest) (hh : h' + 1 ≤ h ∧ maxL' ≤ 45) (hW : (rest.map fun v => v.category).sum ≤ 8) (hk : k ≤ mcR ∧ n ≤ msR) (kk : ∀ r σ1, f = some (r, σ1) → AT z x nL w ra F mc ms k n ad (pc + 3) lv (.long r :: rest) σ1 (kd r σ1)) : AT z x nL w ra F mc ms k n ad pc lv st σ (f.bind (pq kd)) := at_callV (ra' := rJ) hC hR lk hM hd hrec hn hst hh hW hk kk
theorem at_callVU (hC : CX z ad x cc own nL ret) {h mcR msR : Nat} (hR : x.2.2.1 = rmk h mcR msR) {y : MethodName} {cc' : ByteArray} {maxL' : Nat} {ret' : Option FieldType} {h' idx na q : Nat} {As rest : List Value} {f : Option (Unit × S)} {kd : Unit → S → Option (ρ × S)} (lk : LkV own idx y cc' maxL' ret' na) (hM : Ct z w rU eqA y cc' maxL' ret' h' 0 0 (.ref q :: As) σ f) (hd : decode cc pc = .ok (.invokevirtual idx, 3)) (hrec : ∃ ci fs r, zcl[ci]? = some r ∧ r.1 = y.cls ∧ (w ad σ)[q]? = some (ad q, .inr (ci, fs))) (hn : As.length = na) (hst : st = As.reverse ++ .ref q :: rest) (hh : h' + 1 ≤ h ∧ maxL' ≤ 45) (hW : (rest.map fun v => v.category).sum ≤ 8) (hk : k ≤ mcR ∧ n ≤ msR) (kk : ∀ r σ1, f = some (r, σ1) → AT z x nL w ra F mc ms k n ad (pc + 3) lv (rest) σ1 (kd r σ1)) : AT z x nL w ra F mc ms k n ad pc lv st σ (f.bind (pq kd)) := at_callV (ra' := rU) hC hR lk hM hd hrec hn hst hh hW hk kk
theorem at_callVN (hC : CX z ad x cc own nL ret) {h mcR msR : Nat} (hR : x.2.2.1 = rmk h mcR msR) {y : MethodName} {cc' : ByteArray} {maxL' : Nat} {ret' : Option FieldType} {h' idx na q : Nat} {As rest : List Value} {f : Option (Nat × S)} {kd : Nat → S → Option (ρ × S)} (lk : LkV own idx y cc' maxL' ret' na) (hM : Ct z w rN eqA y cc' maxL' ret' h' 0 0 (.ref q :: As) σ f) (hd : decode cc pc = .ok (.invokevirtual idx, 3)) (hrec : ∃ ci fs r, zcl[ci]? = some r ∧ r.1 = y.cls ∧ (w ad σ)[q]? = some (ad q, .inr (ci, fs))) (hn : As.length = na) (hst : st = As.reverse ++ .ref q :: rest) (hh : h' + 1 ≤ h ∧ maxL' ≤ 45) (hW : (rest.map fun v => v.category).sum ≤ 8) (hk : k ≤ mcR ∧ n ≤ msR) (kk : ∀ r σ1, f = some (r, σ1) → AT z x nL w ra F mc ms k n ad (pc + 3) lv (.ref r :: rest) σ1 (kd r σ1)) : AT z x nL w ra F mc ms k n ad pc lv st σ (f.bind (pq kd)) := at_callV (ra' := rN) hC hR lk hM hd hrec hn hst hh hW hk kk
theorem at_callVR (hC : CX z ad x cc own nL ret) {h mcR msR : Nat} (hR : x.2.2.1 = rmk h mcR msR) {y : MethodName} {cc' : ByteArray} {maxL' : Nat} {ret' : Option FieldType} {h' idx na q : Nat} {As rest : List Value} {f : Option ((Option Nat) × S)} {kd : (Option Nat) → S → Option (ρ × S)} (lk : LkV own idx y cc' maxL' ret' na) (hM : Ct z w rR eqA y cc' maxL' ret' h' 0 0 (.ref q :: As) σ f) (hd : decode cc pc = .ok (.invokevirtual idx, 3)) (hrec : ∃ ci fs r, zcl[ci]? = some r ∧ r.1 = y.cls ∧ (w ad σ)[q]? = some (ad q, .inr (ci, fs))) (hn : As.length = na) (hst : st = As.reverse ++ .ref q :: rest) (hh : h' + 1 ≤ h ∧ maxL' ≤ 45) (hW : (rest.map fun v => v.category).sum ≤ 8) (hk : k ≤ mcR ∧ n ≤ msR) (kk : ∀ r σ1, f = some (r, σ1) → AT z x nL w ra F mc ms k n ad (pc + 3) lv (vr r :: rest) σ1 (kd r σ1)) : AT z x nL w ra F mc ms k n ad pc lv st σ (f.bind (pq kd)) := at_callV (ra' := rR) hC hR lk hM hd hrec hn hst hh hW hk kk
theorem at_callSI (hC : CX z ad x cc own nL ret) {h mcR msR : Nat} (hR : x.2.2.1 = rmk h mcR msR) {y : MethodName} {cc' : ByteArray} {maxL' : Nat} {ret' : Option FieldType} {h' idx na : Nat} {As rest : List Value} {f : Option (Int32 × S)} {kd : Int32 → S → Option (ρ × S)} (lk : LkS own idx y cc' maxL' ret' na) (hM : Ct z w rI eqA y cc' maxL' ret' h' 0 0 (As) σ f) (hd : decode cc pc = .ok (.invokestatic idx, 3)) (hn : As.length = na) (hst : st = As.reverse ++ rest) (hh : h' + 1 ≤ h ∧ maxL' ≤ 45) (hW : (rest.map fun v => v.category).sum ≤ 8) (hk : k ≤ mcR ∧ n ≤ msR) (kk : ∀ r σ1, f = some (r, σ1) → AT z x nL w ra F mc ms k n ad (pc + 3) lv (.int r :: rest) σ1 (kd r σ1)) : AT z x nL w ra F mc ms k n ad pc lv st σ (f.bind (pq kd)) := at_callS (ra' := rI) hC hR lk hM hd hn hst hh hW hk kk
theorem at_callSJ (hC : CX z ad x cc own nL ret) {h mcR msR : Nat} (hR : x.2.2.1 = rmk h mcR msR) {y : MethodName} {cc' : ByteArray} {maxL' : Nat} {ret' : Option FieldType} {h' idx na : Nat} {As rest : List Value} {f : Option (Int64 × S)} {kd : Int64 → S → Option (ρ × S)} (lk : LkS own idx y cc' maxL' ret' na) (hM : Ct z w rJ eqA y cc' maxL' ret' h' 0 0 (As) σ f) (hd : decode cc pc = .ok (.invokestatic idx, 3)) (hn : As.length = na) (hst : st = As.reverse ++ rest) (hh : h' + 1 ≤ h ∧ maxL' ≤ 45) (hW : (rest.map fun v => v.category).sum ≤ 8) (hk : k ≤ mcR ∧ n ≤ msR) (kk : ∀ r σ1, f = some (r, σ1) → AT z x nL w ra F mc ms k n ad (pc + 3) lv (.long r :: rest) σ1 (kd r σ1)) : AT z x nL w ra F mc ms k n ad pc lv st σ (f.bind (pq kd)) := at_callS (ra' := rJ) hC hR lk hM hd hn hst hh hW hk kk
theorem at_callSU (hC : CX z ad x cc own nL ret) {h mcR msR : Nat} (hR : x.2.2.1 = rmk h mcR msR) {y : MethodName} {cc' : ByteArray} {maxL' : Nat} {ret' : Option FieldType} {h' idx na : Nat} {As rest : List Value} {f : Option (Unit × S)} {kd : Unit → S → Option (ρ × S)} (lk : LkS own idx y cc' maxL' ret' na) (hM : Ct z w rU eqA y cc' maxL' ret' h' 0 0 (As) σ f) (hd : decode cc pc = .ok (.invokestatic idx, 3)) (hn : As.length = na) (hst : st = As.reverse ++ rest) (hh : h' + 1 ≤ h ∧ maxL' ≤ 45) (hW : (rest.map fun v => v.category).sum ≤ 8) (hk : k ≤ mcR ∧ n ≤ msR) (kk : ∀ r σ1, f = some (r, σ1) → AT z x nL w ra F mc ms k n ad (pc + 3) lv (rest) σ1 (kd r σ1)) : AT z x nL w ra F mc ms k n ad pc lv st σ (f.bind (pq kd)) := at_callS (ra' := rU) hC hR lk hM hd hn hst hh hW hk kk
theorem at_callSN (hC : CX z ad x cc own nL ret) {h mcR msR : Nat} (hR : x.2.2.1 = rmk h mcR msR) {y : MethodName} {cc' : ByteArray} {maxL' : Nat} {ret' : Option FieldType} {h' idx na : Nat} {As rest : List Value} {f : Option (Nat × S)} {kd : Nat → S → Option (ρ × S)} (lk : LkS own idx y cc' maxL' ret' na) (hM : Ct z w rN eqA y cc' maxL' ret' h' 0 0 (As) σ f) (hd : decode cc pc = .ok (.invokestatic idx, 3)) (hn : As.length = na) (hst : st = As.reverse ++ rest) (hh : h' + 1 ≤ h ∧ maxL' ≤ 45) (hW : (rest.map fun v => v.category).sum ≤ 8) (hk : k ≤ mcR ∧ n ≤ msR) (kk : ∀ r σ1, f = some (r, σ1) → AT z x nL w ra F mc ms k n ad (pc + 3) lv (.ref r :: rest) σ1 (kd r σ1)) : AT z x nL w ra F mc ms k n ad pc lv st σ (f.bind (pq kd)) := at_callS (ra' := rN) hC hR lk hM hd hn hst hh hW hk kk
theorem at_callSR (hC : CX z ad x cc own nL ret) {h mcR msR : Nat} (hR : x.2.2.1 = rmk h mcR msR) {y : MethodName} {cc' : ByteArray} {maxL' : Nat} {ret' : Option FieldType} {h' idx na : Nat} {As rest : List Value} {f : Option ((Option Nat) × S)} {kd : (Option Nat) → S → Option (ρ × S)} (lk : LkS own idx y cc' maxL' ret' na) (hM : Ct z w rR eqA y cc' maxL' ret' h' 0 0 (As) σ f) (hd : decode cc pc = .ok (.invokestatic idx, 3)) (hn : As.length = na) (hst : st = As.reverse ++ rest) (hh : h' + 1 ≤ h ∧ maxL' ≤ 45) (hW : (rest.map fun v => v.category).sum ≤ 8) (hk : k ≤ mcR ∧ n ≤ msR) (kk : ∀ r σ1, f = some (r, σ1) → AT z x nL w ra F mc ms k n ad (pc + 3) lv (vr r :: rest) σ1 (kd r σ1)) : AT z x nL w ra F mc ms k n ad pc lv st σ (f.bind (pq kd)) := at_callS (ra' := rR) hC hR lk hM hd hn hst hh hW hk kk
theorem at_callVpI (hC : CX z ad x cc own nL ret) {h mcR msR : Nat} (hR : x.2.2.1 = rmk h mcR msR) {y : MethodName} {cc' : ByteArray} {maxL' : Nat} {ret' : Option FieldType} {h' idx na q : Nat} {As rest : List Value} {f : Option Int32} {kd : Int32 → Option (ρ × S)} (lk : LkV own idx y cc' maxL' ret' na) (hM : Ct z w rI eqA y cc' maxL' ret' h' 0 0 (.ref q :: As) σ (f.map fun r => (r, σ))) (hd : decode cc pc = .ok (.invokevirtual idx, 3)) (hrec : ∃ ci fs r, zcl[ci]? = some r ∧ r.1 = y.cls ∧ (w ad σ)[q]? = some (ad q, .inr (ci, fs))) (hn : As.length = na) (hst : st = As.reverse ++ .ref q :: rest) (hh : h' + 1 ≤ h ∧ maxL' ≤ 45) (hW : (rest.map fun v => v.category).sum ≤ 8) (hk : k ≤ mcR ∧ n ≤ msR) (kk : ∀ r, f = some r → AT z x nL w ra F mc ms k n ad (pc + 3) lv (.int r :: rest) σ (kd r)) : AT z x nL w ra F mc ms k n ad pc lv st σ (f.bind kd) := at_callVp (ra' := rI) hC hR lk hM hd hrec hn hst hh hW hk kk
theorem at_callVpJ (hC : CX z ad x cc own nL ret) {h mcR msR : Nat} (hR : x.2.2.1 = rmk h mcR msR) {y : MethodName} {cc' : ByteArray} {maxL' : Nat} {ret' : Option FieldType} {h' idx na q : Nat} {As rest : List Value} {f : Option Int64} {kd : Int64 → Option (ρ × S)} (lk : LkV own idx y cc' maxL' ret' na) (hM : Ct z w rJ eqA y cc' maxL' ret' h' 0 0 (.ref q :: As) σ (f.map fun r => (r, σ))) (hd : decode cc pc = .ok (.invokevirtual idx, 3)) (hrec : ∃ ci fs r, zcl[ci]? = some r ∧ r.1 = y.cls ∧ (w ad σ)[q]? = some (ad q, .inr (ci, fs))) (hn : As.length = na) (hst : st = As.reverse ++ .ref q :: rest) (hh : h' + 1 ≤ h ∧ maxL' ≤ 45) (hW : (rest.map fun v => v.category).sum ≤ 8) (hk : k ≤ mcR ∧ n ≤ msR) (kk : ∀ r, f = some r → AT z x nL w ra F mc ms k n ad (pc + 3) lv (.long r :: rest) σ (kd r)) : AT z x nL w ra F mc ms k n ad pc lv st σ (f.bind kd) := at_callVp (ra' := rJ) hC hR lk hM hd hrec hn hst hh hW hk kk
theorem at_callVpU (hC : CX z ad x cc own nL ret) {h mcR msR : Nat} (hR : x.2.2.1 = rmk h mcR msR) {y : MethodName} {cc' : ByteArray} {maxL' : Nat} {ret' : Option FieldType} {h' idx na q : Nat} {As rest : List Value} {f : Option Unit} {kd : Unit → Option (ρ × S)} (lk : LkV own idx y cc' maxL' ret' na) (hM : Ct z w rU eqA y cc' maxL' ret' h' 0 0 (.ref q :: As) σ (f.map fun r => (r, σ))) (hd : decode cc pc = .ok (.invokevirtual idx, 3)) (hrec : ∃ ci fs r, zcl[ci]? = some r ∧ r.1 = y.cls ∧ (w ad σ)[q]? = some (ad q, .inr (ci, fs))) (hn : As.length = na) (hst : st = As.reverse ++ .ref q :: rest) (hh : h' + 1 ≤ h ∧ maxL' ≤ 45) (hW : (rest.map fun v => v.category).sum ≤ 8) (hk : k ≤ mcR ∧ n ≤ msR) (kk : ∀ r, f = some r → AT z x nL w ra F mc ms k n ad (pc + 3) lv (rest) σ (kd r)) : AT z x nL w ra F mc ms k n ad pc lv st σ (f.bind kd) := at_callVp (ra' := rU) hC hR lk hM hd hrec hn hst hh hW hk kk
theorem at_callVpN (hC : CX z ad x cc own nL ret) {h mcR msR : Nat} (hR : x.2.2.1 = rmk h mcR msR) {y : MethodName} {cc' : ByteArray} {maxL' : Nat} {ret' : Option FieldType} {h' idx na q : Nat} {As rest : List Value} {f : Option Nat} {kd : Nat → Option (ρ × S)} (lk : LkV own idx y cc' maxL' ret' na) (hM : Ct z w rN eqA y cc' maxL' ret' h' 0 0 (.ref q :: As) σ (f.map fun r => (r, σ))) (hd : decode cc pc = .ok (.invokevirtual idx, 3)) (hrec : ∃ ci fs r, zcl[ci]? = some r ∧ r.1 = y.cls ∧ (w ad σ)[q]? = some (ad q, .inr (ci, fs))) (hn : As.length = na) (hst : st = As.reverse ++ .ref q :: rest) (hh : h' + 1 ≤ h ∧ maxL' ≤ 45) (hW : (rest.map fun v => v.category).sum ≤ 8) (hk : k ≤ mcR ∧ n ≤ msR) (kk : ∀ r, f = some r → AT z x nL w ra F mc ms k n ad (pc + 3) lv (.ref r :: rest) σ (kd r)) : AT z x nL w ra F mc ms k n ad pc lv st σ (f.bind kd) := at_callVp (ra' := rN) hC hR lk hM hd hrec hn hst hh hW hk kk
theorem at_callVpR (hC : CX z ad x cc own nL ret) {h mcR msR : Nat} (hR : x.2.2.1 = rmk h mcR msR) {y : MethodName} {cc' : ByteArray} {maxL' : Nat} {ret' : Option FieldType} {h' idx na q : Nat} {As rest : List Value} {f : Option (Option Nat)} {kd : (Option Nat) → Option (ρ × S)} (lk : LkV own idx y cc' maxL' ret' na) (hM : Ct z w rR eqA y cc' maxL' ret' h' 0 0 (.ref q :: As) σ (f.map fun r => (r, σ))) (hd : decode cc pc = .ok (.invokevirtual idx, 3)) (hrec : ∃ ci fs r, zcl[ci]? = some r ∧ r.1 = y.cls ∧ (w ad σ)[q]? = some (ad q, .inr (ci, fs))) (hn : As.length = na) (hst : st = As.reverse ++ .ref q :: rest) (hh : h' + 1 ≤ h ∧ maxL' ≤ 45) (hW : (rest.map fun v => v.category).sum ≤ 8) (hk : k ≤ mcR ∧ n ≤ msR) (kk : ∀ r, f = some r → AT z x nL w ra F mc ms k n ad (pc + 3) lv (vr r :: rest) σ (kd r)) : AT z x nL w ra F mc ms k n ad pc lv st σ (f.bind kd) := at_callVp (ra' := rR) hC hR lk hM hd hrec hn hst hh hW hk kk
theorem at_callSpI (hC : CX z ad x cc own nL ret) {h mcR msR : Nat} (hR : x.2.2.1 = rmk h mcR msR) {y : MethodName} {cc' : ByteArray} {maxL' : Nat} {ret' : Option FieldType} {h' idx na : Nat} {As rest : List Value} {f : Option Int32} {kd : Int32 → Option (ρ × S)} (lk : LkS own idx y cc' maxL' ret' na) (hM : Ct z w rI eqA y cc' maxL' ret' h' 0 0 (As) σ (f.map fun r => (r, σ))) (hd : decode cc pc = .ok (.invokestatic idx, 3)) (hn : As.length = na) (hst : st = As.reverse ++ rest) (hh : h' + 1 ≤ h ∧ maxL' ≤ 45) (hW : (rest.map fun v => v.category).sum ≤ 8) (hk : k ≤ mcR ∧ n ≤ msR) (kk : ∀ r, f = some r → AT z x nL w ra F mc ms k n ad (pc + 3) lv (.int r :: rest) σ (kd r)) : AT z x nL w ra F mc ms k n ad pc lv st σ (f.bind kd) := at_callSp (ra' := rI) hC hR lk hM hd hn hst hh hW hk kk
theorem at_callSpJ (hC : CX z ad x cc own nL ret) {h mcR msR : Nat} (hR : x.2.2.1 = rmk h mcR msR) {y : MethodName} {cc' : ByteArray} {maxL' : Nat} {ret' : Option FieldType} {h' idx na : Nat} {As rest : List Value} {f : Option Int64} {kd : Int64 → Option (ρ × S)} (lk : LkS own idx y cc' maxL' ret' na) (hM : Ct z w rJ eqA y cc' maxL' ret' h' 0 0 (As) σ (f.map fun r => (r, σ))) (hd : decode cc pc = .ok (.invokestatic idx, 3)) (hn : As.length = na) (hst : st = As.reverse ++ rest) (hh : h' + 1 ≤ h ∧ maxL' ≤ 45) (hW : (rest.map fun v => v.category).sum ≤ 8) (hk : k ≤ mcR ∧ n ≤ msR) (kk : ∀ r, f = some r → AT z x nL w ra F mc ms k n ad (pc + 3) lv (.long r :: rest) σ (kd r)) : AT z x nL w ra F mc ms k n ad pc lv st σ (f.bind kd) := at_callSp (ra' := rJ) hC hR lk hM hd hn hst hh hW hk kk
theorem at_callSpU (hC : CX z ad x cc own nL ret) {h mcR msR : Nat} (hR : x.2.2.1 = rmk h mcR msR) {y : MethodName} {cc' : ByteArray} {maxL' : Nat} {ret' : Option FieldType} {h' idx na : Nat} {As rest : List Value} {f : Option Unit} {kd : Unit → Option (ρ × S)} (lk : LkS own idx y cc' maxL' ret' na) (hM : Ct z w rU eqA y cc' maxL' ret' h' 0 0 (As) σ (f.map fun r => (r, σ))) (hd : decode cc pc = .ok (.invokestatic idx, 3)) (hn : As.length = na) (hst : st = As.reverse ++ rest) (hh : h' + 1 ≤ h ∧ maxL' ≤ 45) (hW : (rest.map fun v => v.category).sum ≤ 8) (hk : k ≤ mcR ∧ n ≤ msR) (kk : ∀ r, f = some r → AT z x nL w ra F mc ms k n ad (pc + 3) lv (rest) σ (kd r)) : AT z x nL w ra F mc ms k n ad pc lv st σ (f.bind kd) := at_callSp (ra' := rU) hC hR lk hM hd hn hst hh hW hk kk
theorem at_callSpN (hC : CX z ad x cc own nL ret) {h mcR msR : Nat} (hR : x.2.2.1 = rmk h mcR msR) {y : MethodName} {cc' : ByteArray} {maxL' : Nat} {ret' : Option FieldType} {h' idx na : Nat} {As rest : List Value} {f : Option Nat} {kd : Nat → Option (ρ × S)} (lk : LkS own idx y cc' maxL' ret' na) (hM : Ct z w rN eqA y cc' maxL' ret' h' 0 0 (As) σ (f.map fun r => (r, σ))) (hd : decode cc pc = .ok (.invokestatic idx, 3)) (hn : As.length = na) (hst : st = As.reverse ++ rest) (hh : h' + 1 ≤ h ∧ maxL' ≤ 45) (hW : (rest.map fun v => v.category).sum ≤ 8) (hk : k ≤ mcR ∧ n ≤ msR) (kk : ∀ r, f = some r → AT z x nL w ra F mc ms k n ad (pc + 3) lv (.ref r :: rest) σ (kd r)) : AT z x nL w ra F mc ms k n ad pc lv st σ (f.bind kd) := at_callSp (ra' := rN) hC hR lk hM hd hn hst hh hW hk kk
theorem at_callSpR (hC : CX z ad x cc own nL ret) {h mcR msR : Nat} (hR : x.2.2.1 = rmk h mcR msR) {y : MethodName} {cc' : ByteArray} {maxL' : Nat} {ret' : Option FieldType} {h' idx na : Nat} {As rest : List Value} {f : Option (Option Nat)} {kd : (Option Nat) → Option (ρ × S)} (lk : LkS own idx y cc' maxL' ret' na) (hM : Ct z w rR eqA y cc' maxL' ret' h' 0 0 (As) σ (f.map fun r => (r, σ))) (hd : decode cc pc = .ok (.invokestatic idx, 3)) (hn : As.length = na) (hst : st = As.reverse ++ rest) (hh : h' + 1 ≤ h ∧ maxL' ≤ 45) (hW : (rest.map fun v => v.category).sum ≤ 8) (hk : k ≤ mcR ∧ n ≤ msR) (kk : ∀ r, f = some r → AT z x nL w ra F mc ms k n ad (pc + 3) lv (vr r :: rest) σ (kd r)) : AT z x nL w ra F mc ms k n ad pc lv st σ (f.bind kd) := at_callSp (ra' := rR) hC hR lk hM hd hn hst hh hW hk kk
theorem ap_callVI (hC : CX z ad x cc own nL ret) {h mcR msR : Nat} (hR : x.2.2.1 = rmk h mcR msR) {y : MethodName} {cc' : ByteArray} {maxL' : Nat} {ret' : Option FieldType} {h' idx na q : Nat} {As rest : List Value} {f : Option Int32} {kd : Int32 → Option ζ} (lk : LkV own idx y cc' maxL' ret' na) (hM : Ct z w rI eqA y cc' maxL' ret' h' 0 0 (.ref q :: As) σ (f.map fun r => (r, σ))) (hd : decode cc pc = .ok (.invokevirtual idx, 3)) (hrec : ∃ ci fs r, zcl[ci]? = some r ∧ r.1 = y.cls ∧ (w ad σ)[q]? = some (ad q, .inr (ci, fs))) (hn : As.length = na) (hst : st = As.reverse ++ .ref q :: rest) (hh : h' + 1 ≤ h ∧ maxL' ≤ 45) (hW : (rest.map fun v => v.category).sum ≤ 8) (hk : k ≤ mcR ∧ n ≤ msR) (kk : ∀ r, f = some r → AT z x nL w ra F mc ms k n ad (pc + 3) lv (.int r :: rest) σ ((kd r).map g)) : AT z x nL w ra F mc ms k n ad pc lv st σ ((f.bind kd).map g) := ap_callV (ra' := rI) hC hR lk hM hd hrec hn hst hh hW hk kk
theorem ap_callVJ (hC : CX z ad x cc own nL ret) {h mcR msR : Nat} (hR : x.2.2.1 = rmk h mcR msR) {y : MethodName} {cc' : ByteArray} {maxL' : Nat} {ret' : Option FieldType} {h' idx na q : Nat} {As rest : List Value} {f : Option Int64} {kd : Int64 → Option ζ} (lk : LkV own idx y cc' maxL' ret' na) (hM : Ct z w rJ eqA y cc' maxL' ret' h' 0 0 (.ref q :: As) σ (f.map fun r => (r, σ))) (hd : decode cc pc = .ok (.invokevirtual idx, 3)) (hrec : ∃ ci fs r, zcl[ci]? = some r ∧ r.1 = y.cls ∧ (w ad σ)[q]? = some (ad q, .inr (ci, fs))) (hn : As.length = na) (hst : st = As.reverse ++ .ref q :: rest) (hh : h' + 1 ≤ h ∧ maxL' ≤ 45) (hW : (rest.map fun v => v.category).sum ≤ 8) (hk : k ≤ mcR ∧ n ≤ msR) (kk : ∀ r, f = some r → AT z x nL w ra F mc ms k n ad (pc + 3) lv (.long r :: rest) σ ((kd r).map g)) : AT z x nL w ra F mc ms k n ad pc lv st σ ((f.bind kd).map g) := ap_callV (ra' := rJ) hC hR lk hM hd hrec hn hst hh hW hk kk
theorem ap_callVU (hC : CX z ad x cc own nL ret) {h mcR msR : Nat} (hR : x.2.2.1 = rmk h mcR msR) {y : MethodName} {cc' : ByteArray} {maxL' : Nat} {ret' : Option FieldType} {h' idx na q : Nat} {As rest : List Value} {f : Option Unit} {kd : Unit → Option ζ} (lk : LkV own idx y cc' maxL' ret' na) (hM : Ct z w rU eqA y cc' maxL' ret' h' 0 0 (.ref q :: As) σ (f.map fun r => (r, σ))) (hd : decode cc pc = .ok (.invokevirtual idx, 3)) (hrec : ∃ ci fs r, zcl[ci]? = some r ∧ r.1 = y.cls ∧ (w ad σ)[q]? = some (ad q, .inr (ci, fs))) (hn : As.length = na) (hst : st = As.reverse ++ .ref q :: rest) (hh : h' + 1 ≤ h ∧ maxL' ≤ 45) (hW : (rest.map fun v => v.category).sum ≤ 8) (hk : k ≤ mcR ∧ n ≤ msR) (kk : ∀ r, f = some r → AT z x nL w ra F mc ms k n ad (pc + 3) lv (rest) σ ((kd r).map g)) : AT z x nL w ra F mc ms k n ad pc lv st σ ((f.bind kd).map g) := ap_callV (ra' := rU) hC hR lk hM hd hrec hn hst hh hW hk kk
theorem ap_callVN (hC : CX z ad x cc own nL ret) {h mcR msR : Nat} (hR : x.2.2.1 = rmk h mcR msR) {y : MethodName} {cc' : ByteArray} {maxL' : Nat} {ret' : Option FieldType} {h' idx na q : Nat} {As rest : List Value} {f : Option Nat} {kd : Nat → Option ζ} (lk : LkV own idx y cc' maxL' ret' na) (hM : Ct z w rN eqA y cc' maxL' ret' h' 0 0 (.ref q :: As) σ (f.map fun r => (r, σ))) (hd : decode cc pc = .ok (.invokevirtual idx, 3)) (hrec : ∃ ci fs r, zcl[ci]? = some r ∧ r.1 = y.cls ∧ (w ad σ)[q]? = some (ad q, .inr (ci, fs))) (hn : As.length = na) (hst : st = As.reverse ++ .ref q :: rest) (hh : h' + 1 ≤ h ∧ maxL' ≤ 45) (hW : (rest.map fun v => v.category).sum ≤ 8) (hk : k ≤ mcR ∧ n ≤ msR) (kk : ∀ r, f = some r → AT z x nL w ra F mc ms k n ad (pc + 3) lv (.ref r :: rest) σ ((kd r).map g)) : AT z x nL w ra F mc ms k n ad pc lv st σ ((f.bind kd).map g) := ap_callV (ra' := rN) hC hR lk hM hd hrec hn hst hh hW hk kk
theorem ap_callVR (hC : CX z ad x cc own nL ret) {h mcR msR : Nat} (hR : x.2.2.1 = rmk h mcR msR) {y : MethodName} {cc' : ByteArray} {maxL' : Nat} {ret' : Option FieldType} {h' idx na q : Nat} {As rest : List Value} {f : Option (Option Nat)} {kd : (Option Nat) → Option ζ} (lk : LkV own idx y cc' maxL' ret' na) (hM : Ct z w rR eqA y cc' maxL' ret' h' 0 0 (.ref q :: As) σ (f.map fun r => (r, σ))) (hd : decode cc pc = .ok (.invokevirtual idx, 3)) (hrec : ∃ ci fs r, zcl[ci]? = some r ∧ r.1 = y.cls ∧ (w ad σ)[q]? = some (ad q, .inr (ci, fs))) (hn : As.length = na) (hst : st = As.reverse ++ .ref q :: rest) (hh : h' + 1 ≤ h ∧ maxL' ≤ 45) (hW : (rest.map fun v => v.category).sum ≤ 8) (hk : k ≤ mcR ∧ n ≤ msR) (kk : ∀ r, f = some r → AT z x nL w ra F mc ms k n ad (pc + 3) lv (vr r :: rest) σ ((kd r).map g)) : AT z x nL w ra F mc ms k n ad pc lv st σ ((f.bind kd).map g) := ap_callV (ra' := rR) hC hR lk hM hd hrec hn hst hh hW hk kk
theorem ap_callSI (hC : CX z ad x cc own nL ret) {h mcR msR : Nat} (hR : x.2.2.1 = rmk h mcR msR) {y : MethodName} {cc' : ByteArray} {maxL' : Nat} {ret' : Option FieldType} {h' idx na : Nat} {As rest : List Value} {f : Option Int32} {kd : Int32 → Option ζ} (lk : LkS own idx y cc' maxL' ret' na) (hM : Ct z w rI eqA y cc' maxL' ret' h' 0 0 (As) σ (f.map fun r => (r, σ))) (hd : decode cc pc = .ok (.invokestatic idx, 3)) (hn : As.length = na) (hst : st = As.reverse ++ rest) (hh : h' + 1 ≤ h ∧ maxL' ≤ 45) (hW : (rest.map fun v => v.category).sum ≤ 8) (hk : k ≤ mcR ∧ n ≤ msR) (kk : ∀ r, f = some r → AT z x nL w ra F mc ms k n ad (pc + 3) lv (.int r :: rest) σ ((kd r).map g)) : AT z x nL w ra F mc ms k n ad pc lv st σ ((f.bind kd).map g) := ap_callS (ra' := rI) hC hR lk hM hd hn hst hh hW hk kk
theorem ap_callSJ (hC : CX z ad x cc own nL ret) {h mcR msR : Nat} (hR : x.2.2.1 = rmk h mcR msR) {y : MethodName} {cc' : ByteArray} {maxL' : Nat} {ret' : Option FieldType} {h' idx na : Nat} {As rest : List Value} {f : Option Int64} {kd : Int64 → Option ζ} (lk : LkS own idx y cc' maxL' ret' na) (hM : Ct z w rJ eqA y cc' maxL' ret' h' 0 0 (As) σ (f.map fun r => (r, σ))) (hd : decode cc pc = .ok (.invokestatic idx, 3)) (hn : As.length = na) (hst : st = As.reverse ++ rest) (hh : h' + 1 ≤ h ∧ maxL' ≤ 45) (hW : (rest.map fun v => v.category).sum ≤ 8) (hk : k ≤ mcR ∧ n ≤ msR) (kk : ∀ r, f = some r → AT z x nL w ra F mc ms k n ad (pc + 3) lv (.long r :: rest) σ ((kd r).map g)) : AT z x nL w ra F mc ms k n ad pc lv st σ ((f.bind kd).map g) := ap_callS (ra' := rJ) hC hR lk hM hd hn hst hh hW hk kk
theorem ap_callSU (hC : CX z ad x cc own nL ret) {h mcR msR : Nat} (hR : x.2.2.1 = rmk h mcR msR) {y : MethodName} {cc' : ByteArray} {maxL' : Nat} {ret' : Option FieldType} {h' idx na : Nat} {As rest : List Value} {f : Option Unit} {kd : Unit → Option ζ} (lk : LkS own idx y cc' maxL' ret' na) (hM : Ct z w rU eqA y cc' maxL' ret' h' 0 0 (As) σ (f.map fun r => (r, σ))) (hd : decode cc pc = .ok (.invokestatic idx, 3)) (hn : As.length = na) (hst : st = As.reverse ++ rest) (hh : h' + 1 ≤ h ∧ maxL' ≤ 45) (hW : (rest.map fun v => v.category).sum ≤ 8) (hk : k ≤ mcR ∧ n ≤ msR) (kk : ∀ r, f = some r → AT z x nL w ra F mc ms k n ad (pc + 3) lv (rest) σ ((kd r).map g)) : AT z x nL w ra F mc ms k n ad pc lv st σ ((f.bind kd).map g) := ap_callS (ra' := rU) hC hR lk hM hd hn hst hh hW hk kk
theorem ap_callSN (hC : CX z ad x cc own nL ret) {h mcR msR : Nat} (hR : x.2.2.1 = rmk h mcR msR) {y : MethodName} {cc' : ByteArray} {maxL' : Nat} {ret' : Option FieldType} {h' idx na : Nat} {As rest : List Value} {f : Option Nat} {kd : Nat → Option ζ} (lk : LkS own idx y cc' maxL' ret' na) (hM : Ct z w rN eqA y cc' maxL' ret' h' 0 0 (As) σ (f.map fun r => (r, σ))) (hd : decode cc pc = .ok (.invokestatic idx, 3)) (hn : As.length = na) (hst : st = As.reverse ++ rest) (hh : h' + 1 ≤ h ∧ maxL' ≤ 45) (hW : (rest.map fun v => v.category).sum ≤ 8) (hk : k ≤ mcR ∧ n ≤ msR) (kk : ∀ r, f = some r → AT z x nL w ra F mc ms k n ad (pc + 3) lv (.ref r :: rest) σ ((kd r).map g)) : AT z x nL w ra F mc ms k n ad pc lv st σ ((f.bind kd).map g) := ap_callS (ra' := rN) hC hR lk hM hd hn hst hh hW hk kk
theorem ap_callSR (hC : CX z ad x cc own nL ret) {h mcR msR : Nat} (hR : x.2.2.1 = rmk h mcR msR) {y : MethodName} {cc' : ByteArray} {maxL' : Nat} {ret' : Option FieldType} {h' idx na : Nat} {As rest : List Value} {f : Option (Option Nat)} {kd : (Option Nat) → Option ζ} (lk : LkS own idx y cc' maxL' ret' na) (hM : Ct z w rR eqA y cc' maxL' ret' h' 0 0 (As) σ (f.map fun r => (r, σ))) (hd : decode cc pc = .ok (.invokestatic idx, 3)) (hn : As.length = na) (hst : st = As.reverse ++ rest) (hh : h' + 1 ≤ h ∧ maxL' ≤ 45) (hW : (rest.map fun v => v.category).sum ≤ 8) (hk : k ≤ mcR ∧ n ≤ msR) (kk : ∀ r, f = some r → AT z x nL w ra F mc ms k n ad (pc + 3) lv (vr r :: rest) σ ((kd r).map g)) : AT z x nL w ra F mc ms k n ad pc lv st σ ((f.bind kd).map g) := ap_callS (ra' := rR) hC hR lk hM hd hn hst hh hW hk kk
end AR3
