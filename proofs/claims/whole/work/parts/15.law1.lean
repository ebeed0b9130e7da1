section LWR
variable {z : ZZ} {x : XX} {nL : Nat} {Q : State → Prop} {k n : Nat} {ad : Nat → Nat} {pc : Nat} {lv : List (Nat × Value)} {st : List Value} {ws : va_W} {cc : ByteArray} {own : String} {ret : Option FieldType} {σ : MS} {τ : XS}
theorem al_isub (hC : CX z ad x cc own nL ret) {a c : Int32} (hd : decode cc pc = .ok (.isub, 1)) (kk : AL z x nL Q k n (pc + 1) lv (.int (a - c) :: st) ws) : AL z x nL Q k n pc lv (.int c :: .int a :: st) ws := by
  intro H locs ls hP hD hS hl
  exact lv_isub hC.1 hC.2.1 hd (kk H locs ls hP hD hS hl)
theorem al_iand (hC : CX z ad x cc own nL ret) {a c : Int32} (hd : decode cc pc = .ok (.iand, 1)) (kk : AL z x nL Q k n (pc + 1) lv (.int (a &&& c) :: st) ws) : AL z x nL Q k n pc lv (.int c :: .int a :: st) ws := by
  intro H locs ls hP hD hS hl
  exact lv_iand hC.1 hC.2.1 hd (kk H locs ls hP hD hS hl)
theorem al_i2l (hC : CX z ad x cc own nL ret) {a : Int32} (hd : decode cc pc = .ok (.i2l, 1)) (kk : AL z x nL Q k n (pc + 1) lv (.long a.toInt64 :: st) ws) : AL z x nL Q k n pc lv (.int a :: st) ws := by
  intro H locs ls hP hD hS hl
  exact lv_i2l hC.1 hC.2.1 hd rfl (kk H locs ls hP hD hS hl)
theorem al_lshl (hC : CX z ad x cc own nL ret) {a : Int64} {c : Int32} (hd : decode cc pc = .ok (.lshl, 1)) (kk : AL z x nL Q k n (pc + 1) lv (.long (a <<< (c.toInt64 &&& 63)) :: st) ws) : AL z x nL Q k n pc lv (.int c :: .long a :: st) ws := by
  intro H locs ls hP hD hS hl
  exact lv_lshl hC.1 hC.2.1 hd rfl (kk H locs ls hP hD hS hl)
theorem al_land (hC : CX z ad x cc own nL ret) {a c : Int64} (hd : decode cc pc = .ok (.land, 1)) (kk : AL z x nL Q k n (pc + 1) lv (.long (a &&& c) :: st) ws) : AL z x nL Q k n pc lv (.long c :: .long a :: st) ws := by
  intro H locs ls hP hD hS hl
  exact lv_land hC.1 hC.2.1 hd (kk H locs ls hP hD hS hl)
theorem al_lor (hC : CX z ad x cc own nL ret) {a c : Int64} (hd : decode cc pc = .ok (.lor, 1)) (kk : AL z x nL Q k n (pc + 1) lv (.long (a ||| c) :: st) ws) : AL z x nL Q k n pc lv (.long c :: .long a :: st) ws := by
  intro H locs ls hP hD hS hl
  exact lv_lor hC.1 hC.2.1 hd (kk H locs ls hP hD hS hl)
theorem al_lcmp (hC : CX z ad x cc own nL ret) {a c : Int64} (hd : decode cc pc = .ok (.lcmp, 1)) (kk : AL z x nL Q k n (pc + 1) lv (.int (lg_cmp a c) :: st) ws) : AL z x nL Q k n pc lv (.long c :: .long a :: st) ws := by
  intro H locs ls hP hD hS hl
  exact W.lcmp hC.1 hC.2.1 hd (kk H locs ls hP hD hS hl)
theorem al_ldc2 (hC : CX z ad x cc own nL ret) {i : Nat} {v : Int64} (hw : Cond.constantLong own i v ∈ GW) (hd : decode cc pc = .ok (.ldc2_w i, 3)) (kk : AL z x nL Q k n (pc + 3) lv (.long v :: st) ws) : AL z x nL Q k n pc lv st ws := by
  intro H locs ls hP hD hS hl
  exact lv_ldc2 hC.1 hC.2.1 hC.2.2.2.2.1 (hC.2.2.2.2.2.1 _ hw) hd (kk H locs ls hP hD hS hl)
theorem al_icmp_eq (hC : CX z ad x cc own nL ret) {a c : Int32} {off : Int} {tgt : Nat} (hd : decode cc pc = .ok (.if_icmp .eq off, 3)) (ht : (pc : Int) + off = (tgt : Int)) (kt : a = c → AL z x nL Q k n tgt lv st ws) (kf : ¬ (a = c) → AL z x nL Q k n (pc + 3) lv st ws) : AL z x nL Q k n pc lv (.int c :: .int a :: st) ws := by
  intro H locs ls hP hD hS hl
  exact lv_icmp_eq hC.1 hC.2.1 hd ht (fun g => kt g H locs ls hP hD hS hl) (fun g => kf g H locs ls hP hD hS hl)
theorem al_icmp_gt (hC : CX z ad x cc own nL ret) {a c : Int32} {off : Int} {tgt : Nat} (hd : decode cc pc = .ok (.if_icmp .gt off, 3)) (ht : (pc : Int) + off = (tgt : Int)) (kt : c < a → AL z x nL Q k n tgt lv st ws) (kf : ¬ (c < a) → AL z x nL Q k n (pc + 3) lv st ws) : AL z x nL Q k n pc lv (.int c :: .int a :: st) ws := by
  intro H locs ls hP hD hS hl
  exact lv_icmp_gt hC.1 hC.2.1 hd ht (fun g => kt g H locs ls hP hD hS hl) (fun g => kf g H locs ls hP hD hS hl)
theorem al_if_eq (hC : CX z ad x cc own nL ret) {a : Int32} {off : Int} {tgt : Nat} (hd : decode cc pc = .ok (.ifCond .eq off, 3)) (ht : (pc : Int) + off = (tgt : Int)) (kt : a = 0 → AL z x nL Q k n tgt lv st ws) (kf : ¬ (a = 0) → AL z x nL Q k n (pc + 3) lv st ws) : AL z x nL Q k n pc lv (.int a :: st) ws := by
  intro H locs ls hP hD hS hl
  exact lv_if_eq hC.1 hC.2.1 hd ht (fun g => kt g H locs ls hP hD hS hl) (fun g => kf g H locs ls hP hD hS hl)
theorem al_sw (hC : CX z ad x cc own nL ret) {dflt lo hi : Int} {offs : Array Int} {len : Nat} {a v : Int32} {off : Int} {tgt : Nat} (i : Nat) (hd : decode cc pc = .ok (.tableswitch dflt lo hi offs, len)) (ho : offs[i]? = some off) (ht : (pc : Int) + off = (tgt : Int)) (hv : v.toInt = lo + i) (hi2 : lo + i ≤ hi) (hp : swp a lo i) (kt : a = v → AL z x nL Q k n tgt lv st ws) (kf : swp a lo (i + 1) → AL z x nL Q k n pc lv (.int a :: st) ws) : AL z x nL Q k n pc lv (.int a :: st) ws := by
  intro H locs ls hP hD hS hl
  by_cases h : a = v
  · have kt' := kt h
    subst h
    exact lv_tableIn hC.1 hC.2.1 hd (by omega) (by omega) (off := off) (by rw [hv, show (lo + (i : Int) - lo).toNat = i by omega]; exact ho) ht (kt' H locs ls hP hD hS hl)
  · refine kf (fun j hj => ?_) H locs ls hP hD hS hl
    rcases Nat.lt_or_ge j i with q | q
    · exact hp j q
    · have e : j = i := by omega
      subst e
      intro he
      exact h (Int32.toInt_inj.mp (by rw [he, hv]))
theorem al_swd (hC : CX z ad x cc own nL ret) {dflt lo hi : Int} {offs : Array Int} {len : Nat} {a : Int32} {tgt : Nat} (i : Nat) (hd : decode cc pc = .ok (.tableswitch dflt lo hi offs, len)) (ht : (pc : Int) + dflt = (tgt : Int)) (hi2 : hi < lo + i) (hp : swp a lo i) (kk : AL z x nL Q k n tgt lv st ws) : AL z x nL Q k n pc lv (.int a :: st) ws := by
  intro H locs ls hP hD hS hl
  have ho : a.toInt < lo ∨ hi < a.toInt := by
    rcases Int.lt_or_le a.toInt lo with q | q
    · exact Or.inl q
    · rcases Int.lt_or_le hi a.toInt with q2 | q2
      · exact Or.inr q2
      · exact absurd (show a.toInt = lo + ((a.toInt - lo).toNat : Nat) by omega) (hp _ (by omega))
  exact lv_tableOut hC.1 hC.2.1 hd ho ht (kk H locs ls hP hD hS hl)
/-- the script's cell at b: L ints -/
def SX (z : ZZ) (x : XX) (b L : Nat) (xs : Nat → Int32) : Prop := va_X b L xs x.2.2.2.1 x.2.2.2.1.heap ∧ b < x.2.2.2.1.heap.size ∧ ¬ zA z b ∧ L ≤ 2560
theorem al_slen (hC : CX z ad x cc own nL ret) {b L : Nat} {xs : Nat → Int32} (hX : SX z x b L xs) (hd : decode cc pc = .ok (.arraylength, 1)) (kk : AL z x nL Q k n (pc + 1) lv (.int (Int32.ofNat L) :: st) ws) : AL z x nL Q k n pc lv (.ref b :: st) ws := by
  intro H locs ls hP hD hS hl
  exact va_slen hC.1 hC.2.1 hX.1 hX.2.1 hX.2.2.1 hS hd (kk H locs ls hP hD hS hl)
theorem ofn_int {j : Nat} (h : j < 100000) : (Int32.ofNat j).toInt = (j : Int) := Int32.toInt_ofNat_of_lt (by omega)
theorem ofn_cl {j : Nat} (h : j < 100000) : (Int32.ofNat j).toNatClampNeg = j := by
  show (Int32.ofNat j).toInt.toNat = j
  rw [ofn_int h]; rfl
theorem al_sld (hC : CX z ad x cc own nL ret) {b L j : Nat} {xs : Nat → Int32} {a : Int32} (hX : SX z x b L xs) (hj : a = Int32.ofNat j) (hL : j < L) (hd : decode cc pc = .ok (.iaload, 1)) (kk : AL z x nL Q k n (pc + 1) lv (.int (xs j) :: st) ws) : AL z x nL Q k n pc lv (.int a :: .ref b :: st) ws := by
  intro H locs ls hP hD hS hl
  subst hj
  have h4 := hX.2.2.2
  have hin : vp_in (Int32.ofNat j) L := by
    rintro (g | g)
    · rw [Int32.lt_iff_toInt_lt, ofn_int (by omega)] at g
      have g2 : ((j : Nat) : Int) < 0 := g
      omega
    · rw [ofn_cl (by omega)] at g; omega
  exact va_sld hC.1 hC.2.1 hX.1 hX.2.1 hX.2.2.1 hS hin hd (by rw [ofn_cl (by omega)]; exact kk H locs ls hP hD hS hl)
def exL (a b : Nat → Nat) : Prop := ∀ k, (k < 80 ∨ 1000000 ≤ k) → b k = a k
theorem extE.L {N : Nat} {a b : Nat → Nat} (h : extE N a b) : exL a b := fun k hk => h k (by omega)
theorem eqA.L {a b : Nat → Nat} (h : eqA a b) : exL a b := fun k _ => by rw [show b = a from h]
theorem exL.trans {a b c : Nat → Nat} (h1 : exL a b) (h2 : exL b c) : exL a c := fun k hk => (h2 k hk).trans (h1 k hk)
/-- a call from the law: on either object, any contract -/
theorem al_callL (hC : CX z ad x cc own nL ret) (hR : x.2.2.1 = room_1) {S ρ : Type} {w : (Nat → Nat) → S → va_W} {ra : ρ → Option Value} {E : (Nat → Nat) → (Nat → Nat) → Prop} {s0 s1 : S} {r0 : ρ} {y : MethodName} {cc' : ByteArray} {maxL' : Nat} {ret' : Option FieldType} {h' mc' ms' idx na q a0 : Nat} {As rest : List Value} {f : Option (ρ × S)} (lk : LkV own idx y cc' maxL' ret' na) (hM : Ct z w ra E y cc' maxL' ret' h' mc' ms' (.ref q :: As) s0 f) (hf : f = some (r0, s1)) (hE : ∀ a b, E a b → exL a b) (hd : decode cc pc = .ok (.invokevirtual idx, 3)) (hrec : ∃ ci fs r, zcl[ci]? = some r ∧ r.1 = y.cls ∧ (w ad s0)[q]? = some (ad q, .inr (ci, fs))) (hn : As.length = na) (hcv : As.map (cv ad) = As) (ha : ad q = a0) (hst : st = As.reverse ++ .ref a0 :: rest) (hh : h' ≤ 1000 ∧ maxL' ≤ 45) (hW : (rest.map fun v => v.category).sum ≤ 8) (hk : k + mc' ≤ 600000 ∧ n + ms' ≤ 7302250) (hra : ∃ v, ra r0 = some v ∧ ∀ b, cv b v = v) (kk : ∀ ad', exL ad ad' → CX z ad' x cc own nL ret → AL z x nL Q (k + mc') (n + ms') (pc + 3) lv ((ra r0).toList ++ rest) (w ad' s1)) : AL z x nL Q k n pc lv st (w ad s0) := by
  intro H locs ls hP hD hS hl
  subst hst ha
  have hcw := (hC.2.2.2.2.2.1)
  have hroom : (rmk h' mc' ms').frames + 1 ≤ x.2.2.1.frames ∧ 8 + (maxL' + 11) + (rmk h' mc' ms').locals ≤ x.2.2.1.locals := by
    rw [hR]; show h' + 1 ≤ 2048 ∧ 8 + (maxL' + 11) + 64 * h' ≤ 84000; omega
  have hcs : k + mc' ≤ x.2.2.1.cells ∧ n + ms' ≤ x.2.2.1.slots := by
    rw [hR]; exact hk
  obtain ⟨ci, fs, rc, hrc1, hrc2, hrc3⟩ := hrec
  have hM' := hM r0 s1 hf ad
  rw [List.map_cons, hcv] at hM'
  refine callQ (σ1 := s1) (va_runV (As := As) (rest := rest) (C := y.cls) (b := ad q) ⟨hC.1, hC.2.1, hC.2.2.2.1, hC.2.2.2.2.1, hcw⟩ hM' (cwV na hcw (gi_cons lk.1 (gi_cons lk.2.1 (gi_cons lk.2.2.1 (gi_cons lk.2.2.2.1 (gi_cons lk.2.2.2.2.1 gi_self))))) rfl rfl rfl ⟨rfl, lk.2.2.2.2.2.1.1, lk.2.2.2.2.2.1.2, lk.2.2.2.2.2.2⟩ hroom) ⟨blind_PB, ?_, fun U hU hW => ⟨rfl, hC.2.2.2.2.2.2.2.step hW hU hS, by rw [hU]; exact hP, hD⟩⟩ rfl hn hl.1 rfl (lv_room hW) hd hcs) hS (fun ad' H1 locs1 hE' hP1 hD1 hS1 => ?_)
  · rw [← hrc2]; exact va_recv hC.2.2.2.2.2.2.2.1 hP hrc1 hrc3
  · obtain ⟨v, hv1, hv2⟩ := hra
    have h1 := hE _ _ hE'
    have := kk ad' h1 (hC.ad fun k hk => h1 k (Or.inr hk)) H1 locs1 ls hP1 hD1 hS1 hl
    rw [hv1] at this ⊢
    rw [show (some v).map (cv ad') = some v by rw [Option.map_some, hv2]]
    exact this
end LWR
theorem ict_eq {a : Int64} : lg_cmp a a = 0 := by
  unfold lg_cmp
  rw [if_neg (by simp), if_pos rfl]
theorem mk_X10_seat : .instanceMethod yX10_seat ∈ GW ∧ .selects yX10_seat.cls yX10_seat yX10_seat ∈ GW ∧ .initialized yX10_seat.cls ∈ GW ∧ .code yX10_seat cX10_seat 3 (some .int) ∈ GW ∧ (yX10_seat.cls ≠ "java/lang/invoke/MethodHandle" ∧ yX10_seat.cls ≠ "java/lang/invoke/VarHandle") ∧ (parseMethodDescriptor yX10_seat.desc).map (fun d => d.parameters.length) = some 1 := ⟨gw_t2 119 (by decide +kernel) (by decide +kernel), gw_t2 120 (by decide +kernel) (by decide +kernel), gw_t1 1 (by decide +kernel) (by decide +kernel), gw_t2 121 (by decide +kernel) (by decide +kernel), ⟨by decide +kernel, by decide +kernel⟩, by decide +kernel⟩
theorem lkl_13 : LkV RL 13 yX10_seat cX10_seat 3 (some .int) 1 := ⟨gw_t2 118 (by decide +kernel) (by decide +kernel), mk_X10_seat⟩
theorem mk_X11_seat : .instanceMethod yX11_seat ∈ GW ∧ .selects yX11_seat.cls yX11_seat yX11_seat ∈ GW ∧ .initialized yX11_seat.cls ∈ GW ∧ .code yX11_seat cX11_seat 3 (some .int) ∈ GW ∧ (yX11_seat.cls ≠ "java/lang/invoke/MethodHandle" ∧ yX11_seat.cls ≠ "java/lang/invoke/VarHandle") ∧ (parseMethodDescriptor yX11_seat.desc).map (fun d => d.parameters.length) = some 1 := ⟨gw_t6 88 (by decide +kernel) (by decide +kernel), gw_t6 89 (by decide +kernel) (by decide +kernel), gw_t1 11 (by decide +kernel) (by decide +kernel), gw_t6 90 (by decide +kernel) (by decide +kernel), ⟨by decide +kernel, by decide +kernel⟩, by decide +kernel⟩
theorem lkl_17 : LkV RL 17 yX11_seat cX11_seat 3 (some .int) 1 := ⟨gw_t6 87 (by decide +kernel) (by decide +kernel), mk_X11_seat⟩
theorem mk_X10_person : .instanceMethod yX10_person ∈ GW ∧ .selects yX10_person.cls yX10_person yX10_person ∈ GW ∧ .initialized yX10_person.cls ∈ GW ∧ .code yX10_person cX10_person 5 (some .int) ∈ GW ∧ (yX10_person.cls ≠ "java/lang/invoke/MethodHandle" ∧ yX10_person.cls ≠ "java/lang/invoke/VarHandle") ∧ (parseMethodDescriptor yX10_person.desc).map (fun d => d.parameters.length) = some 4 := ⟨gw_t2 123 (by decide +kernel) (by decide +kernel), gw_t2 124 (by decide +kernel) (by decide +kernel), gw_t1 1 (by decide +kernel) (by decide +kernel), gw_t2 125 (by decide +kernel) (by decide +kernel), ⟨by decide +kernel, by decide +kernel⟩, by decide +kernel⟩
theorem lkl_18 : LkV RL 18 yX10_person cX10_person 5 (some .int) 4 := ⟨gw_t2 122 (by decide +kernel) (by decide +kernel), mk_X10_person⟩
theorem mk_X11_person : .instanceMethod yX11_person ∈ GW ∧ .selects yX11_person.cls yX11_person yX11_person ∈ GW ∧ .initialized yX11_person.cls ∈ GW ∧ .code yX11_person cX11_person 6 (some .int) ∈ GW ∧ (yX11_person.cls ≠ "java/lang/invoke/MethodHandle" ∧ yX11_person.cls ≠ "java/lang/invoke/VarHandle") ∧ (parseMethodDescriptor yX11_person.desc).map (fun d => d.parameters.length) = some 4 := ⟨gw_t6 95 (by decide +kernel) (by decide +kernel), gw_t6 96 (by decide +kernel) (by decide +kernel), gw_t1 11 (by decide +kernel) (by decide +kernel), gw_t6 97 (by decide +kernel) (by decide +kernel), ⟨by decide +kernel, by decide +kernel⟩, by decide +kernel⟩
theorem lkl_22 : LkV RL 22 yX11_person cX11_person 6 (some .int) 4 := ⟨gw_t6 94 (by decide +kernel) (by decide +kernel), mk_X11_person⟩
theorem mk_X10_birth : .instanceMethod yX10_birth ∈ GW ∧ .selects yX10_birth.cls yX10_birth yX10_birth ∈ GW ∧ .initialized yX10_birth.cls ∈ GW ∧ .code yX10_birth cX10_birth 3 (some .int) ∈ GW ∧ (yX10_birth.cls ≠ "java/lang/invoke/MethodHandle" ∧ yX10_birth.cls ≠ "java/lang/invoke/VarHandle") ∧ (parseMethodDescriptor yX10_birth.desc).map (fun d => d.parameters.length) = some 2 := ⟨gw_t2 146 (by decide +kernel) (by decide +kernel), gw_t2 147 (by decide +kernel) (by decide +kernel), gw_t1 1 (by decide +kernel) (by decide +kernel), gw_t2 148 (by decide +kernel) (by decide +kernel), ⟨by decide +kernel, by decide +kernel⟩, by decide +kernel⟩
theorem lkl_23 : LkV RL 23 yX10_birth cX10_birth 3 (some .int) 2 := ⟨gw_t2 145 (by decide +kernel) (by decide +kernel), mk_X10_birth⟩
theorem mk_X11_birth : .instanceMethod yX11_birth ∈ GW ∧ .selects yX11_birth.cls yX11_birth yX11_birth ∈ GW ∧ .initialized yX11_birth.cls ∈ GW ∧ .code yX11_birth cX11_birth 3 (some .int) ∈ GW ∧ (yX11_birth.cls ≠ "java/lang/invoke/MethodHandle" ∧ yX11_birth.cls ≠ "java/lang/invoke/VarHandle") ∧ (parseMethodDescriptor yX11_birth.desc).map (fun d => d.parameters.length) = some 2 := ⟨gw_t6 110 (by decide +kernel) (by decide +kernel), gw_t6 111 (by decide +kernel) (by decide +kernel), gw_t1 11 (by decide +kernel) (by decide +kernel), gw_t6 112 (by decide +kernel) (by decide +kernel), ⟨by decide +kernel, by decide +kernel⟩, by decide +kernel⟩
theorem lkl_27 : LkV RL 27 yX11_birth cX11_birth 3 (some .int) 2 := ⟨gw_t6 109 (by decide +kernel) (by decide +kernel), mk_X11_birth⟩
theorem mk_X10_wed : .instanceMethod yX10_wed ∈ GW ∧ .selects yX10_wed.cls yX10_wed yX10_wed ∈ GW ∧ .initialized yX10_wed.cls ∈ GW ∧ .code yX10_wed cX10_wed 4 (some .int) ∈ GW ∧ (yX10_wed.cls ≠ "java/lang/invoke/MethodHandle" ∧ yX10_wed.cls ≠ "java/lang/invoke/VarHandle") ∧ (parseMethodDescriptor yX10_wed.desc).map (fun d => d.parameters.length) = some 3 := ⟨gw_t2 151 (by decide +kernel) (by decide +kernel), gw_t2 152 (by decide +kernel) (by decide +kernel), gw_t1 1 (by decide +kernel) (by decide +kernel), gw_t2 153 (by decide +kernel) (by decide +kernel), ⟨by decide +kernel, by decide +kernel⟩, by decide +kernel⟩
theorem lkl_28 : LkV RL 28 yX10_wed cX10_wed 4 (some .int) 3 := ⟨gw_t2 150 (by decide +kernel) (by decide +kernel), mk_X10_wed⟩
theorem mk_X11_wed : .instanceMethod yX11_wed ∈ GW ∧ .selects yX11_wed.cls yX11_wed yX11_wed ∈ GW ∧ .initialized yX11_wed.cls ∈ GW ∧ .code yX11_wed cX11_wed 4 (some .int) ∈ GW ∧ (yX11_wed.cls ≠ "java/lang/invoke/MethodHandle" ∧ yX11_wed.cls ≠ "java/lang/invoke/VarHandle") ∧ (parseMethodDescriptor yX11_wed.desc).map (fun d => d.parameters.length) = some 3 := ⟨gw_t6 114 (by decide +kernel) (by decide +kernel), gw_t6 115 (by decide +kernel) (by decide +kernel), gw_t1 11 (by decide +kernel) (by decide +kernel), gw_t6 116 (by decide +kernel) (by decide +kernel), ⟨by decide +kernel, by decide +kernel⟩, by decide +kernel⟩
theorem lkl_32 : LkV RL 32 yX11_wed cX11_wed 4 (some .int) 3 := ⟨gw_t6 113 (by decide +kernel) (by decide +kernel), mk_X11_wed⟩
theorem mk_X10_death : .instanceMethod yX10_death ∈ GW ∧ .selects yX10_death.cls yX10_death yX10_death ∈ GW ∧ .initialized yX10_death.cls ∈ GW ∧ .code yX10_death cX10_death 3 (some .int) ∈ GW ∧ (yX10_death.cls ≠ "java/lang/invoke/MethodHandle" ∧ yX10_death.cls ≠ "java/lang/invoke/VarHandle") ∧ (parseMethodDescriptor yX10_death.desc).map (fun d => d.parameters.length) = some 2 := ⟨gw_t2 195 (by decide +kernel) (by decide +kernel), gw_t2 196 (by decide +kernel) (by decide +kernel), gw_t1 1 (by decide +kernel) (by decide +kernel), gw_t2 197 (by decide +kernel) (by decide +kernel), ⟨by decide +kernel, by decide +kernel⟩, by decide +kernel⟩
theorem lkl_33 : LkV RL 33 yX10_death cX10_death 3 (some .int) 2 := ⟨gw_t2 194 (by decide +kernel) (by decide +kernel), mk_X10_death⟩
theorem mk_X11_death : .instanceMethod yX11_death ∈ GW ∧ .selects yX11_death.cls yX11_death yX11_death ∈ GW ∧ .initialized yX11_death.cls ∈ GW ∧ .code yX11_death cX11_death 3 (some .int) ∈ GW ∧ (yX11_death.cls ≠ "java/lang/invoke/MethodHandle" ∧ yX11_death.cls ≠ "java/lang/invoke/VarHandle") ∧ (parseMethodDescriptor yX11_death.desc).map (fun d => d.parameters.length) = some 2 := ⟨gw_t6 142 (by decide +kernel) (by decide +kernel), gw_t6 143 (by decide +kernel) (by decide +kernel), gw_t1 11 (by decide +kernel) (by decide +kernel), gw_t6 144 (by decide +kernel) (by decide +kernel), ⟨by decide +kernel, by decide +kernel⟩, by decide +kernel⟩
theorem lkl_36 : LkV RL 36 yX11_death cX11_death 3 (some .int) 2 := ⟨gw_t6 141 (by decide +kernel) (by decide +kernel), mk_X11_death⟩
theorem mk_X10_member : .instanceMethod yX10_member ∈ GW ∧ .selects yX10_member.cls yX10_member yX10_member ∈ GW ∧ .initialized yX10_member.cls ∈ GW ∧ .code yX10_member cX10_member 5 (some .int) ∈ GW ∧ (yX10_member.cls ≠ "java/lang/invoke/MethodHandle" ∧ yX10_member.cls ≠ "java/lang/invoke/VarHandle") ∧ (parseMethodDescriptor yX10_member.desc).map (fun d => d.parameters.length) = some 4 := ⟨gw_t2 199 (by decide +kernel) (by decide +kernel), gw_t2 200 (by decide +kernel) (by decide +kernel), gw_t1 1 (by decide +kernel) (by decide +kernel), gw_t2 201 (by decide +kernel) (by decide +kernel), ⟨by decide +kernel, by decide +kernel⟩, by decide +kernel⟩
theorem lkl_37 : LkV RL 37 yX10_member cX10_member 5 (some .int) 4 := ⟨gw_t2 198 (by decide +kernel) (by decide +kernel), mk_X10_member⟩
theorem mk_X11_member : .instanceMethod yX11_member ∈ GW ∧ .selects yX11_member.cls yX11_member yX11_member ∈ GW ∧ .initialized yX11_member.cls ∈ GW ∧ .code yX11_member cX11_member 5 (some .int) ∈ GW ∧ (yX11_member.cls ≠ "java/lang/invoke/MethodHandle" ∧ yX11_member.cls ≠ "java/lang/invoke/VarHandle") ∧ (parseMethodDescriptor yX11_member.desc).map (fun d => d.parameters.length) = some 4 := ⟨gw_t6 146 (by decide +kernel) (by decide +kernel), gw_t6 147 (by decide +kernel) (by decide +kernel), gw_t1 11 (by decide +kernel) (by decide +kernel), gw_t6 148 (by decide +kernel) (by decide +kernel), ⟨by decide +kernel, by decide +kernel⟩, by decide +kernel⟩
theorem lkl_40 : LkV RL 40 yX11_member cX11_member 5 (some .int) 4 := ⟨gw_t6 145 (by decide +kernel) (by decide +kernel), mk_X11_member⟩
theorem mk_X10_rate : .instanceMethod yX10_rate ∈ GW ∧ .selects yX10_rate.cls yX10_rate yX10_rate ∈ GW ∧ .initialized yX10_rate.cls ∈ GW ∧ .code yX10_rate cX10_rate 4 (some .int) ∈ GW ∧ (yX10_rate.cls ≠ "java/lang/invoke/MethodHandle" ∧ yX10_rate.cls ≠ "java/lang/invoke/VarHandle") ∧ (parseMethodDescriptor yX10_rate.desc).map (fun d => d.parameters.length) = some 3 := ⟨gw_t2 223 (by decide +kernel) (by decide +kernel), gw_t2 224 (by decide +kernel) (by decide +kernel), gw_t1 1 (by decide +kernel) (by decide +kernel), gw_t2 225 (by decide +kernel) (by decide +kernel), ⟨by decide +kernel, by decide +kernel⟩, by decide +kernel⟩
theorem lkl_41 : LkV RL 41 yX10_rate cX10_rate 4 (some .int) 3 := ⟨gw_t2 222 (by decide +kernel) (by decide +kernel), mk_X10_rate⟩
theorem mk_X11_rate : .instanceMethod yX11_rate ∈ GW ∧ .selects yX11_rate.cls yX11_rate yX11_rate ∈ GW ∧ .initialized yX11_rate.cls ∈ GW ∧ .code yX11_rate cX11_rate 4 (some .int) ∈ GW ∧ (yX11_rate.cls ≠ "java/lang/invoke/MethodHandle" ∧ yX11_rate.cls ≠ "java/lang/invoke/VarHandle") ∧ (parseMethodDescriptor yX11_rate.desc).map (fun d => d.parameters.length) = some 3 := ⟨gw_t6 170 (by decide +kernel) (by decide +kernel), gw_t6 171 (by decide +kernel) (by decide +kernel), gw_t1 11 (by decide +kernel) (by decide +kernel), gw_t6 172 (by decide +kernel) (by decide +kernel), ⟨by decide +kernel, by decide +kernel⟩, by decide +kernel⟩
theorem lkl_44 : LkV RL 44 yX11_rate cX11_rate 4 (some .int) 3 := ⟨gw_t6 169 (by decide +kernel) (by decide +kernel), mk_X11_rate⟩
theorem mk_X10_gone : .instanceMethod yX10_gone ∈ GW ∧ .selects yX10_gone.cls yX10_gone yX10_gone ∈ GW ∧ .initialized yX10_gone.cls ∈ GW ∧ .code yX10_gone cX10_gone 4 (some .int) ∈ GW ∧ (yX10_gone.cls ≠ "java/lang/invoke/MethodHandle" ∧ yX10_gone.cls ≠ "java/lang/invoke/VarHandle") ∧ (parseMethodDescriptor yX10_gone.desc).map (fun d => d.parameters.length) = some 3 := ⟨gw_t2 231 (by decide +kernel) (by decide +kernel), gw_t2 232 (by decide +kernel) (by decide +kernel), gw_t1 1 (by decide +kernel) (by decide +kernel), gw_t2 233 (by decide +kernel) (by decide +kernel), ⟨by decide +kernel, by decide +kernel⟩, by decide +kernel⟩
theorem lkl_45 : LkV RL 45 yX10_gone cX10_gone 4 (some .int) 3 := ⟨gw_t2 230 (by decide +kernel) (by decide +kernel), mk_X10_gone⟩
theorem mk_X11_gone : .instanceMethod yX11_gone ∈ GW ∧ .selects yX11_gone.cls yX11_gone yX11_gone ∈ GW ∧ .initialized yX11_gone.cls ∈ GW ∧ .code yX11_gone cX11_gone 5 (some .int) ∈ GW ∧ (yX11_gone.cls ≠ "java/lang/invoke/MethodHandle" ∧ yX11_gone.cls ≠ "java/lang/invoke/VarHandle") ∧ (parseMethodDescriptor yX11_gone.desc).map (fun d => d.parameters.length) = some 3 := ⟨gw_t6 174 (by decide +kernel) (by decide +kernel), gw_t6 175 (by decide +kernel) (by decide +kernel), gw_t1 11 (by decide +kernel) (by decide +kernel), gw_t6 176 (by decide +kernel) (by decide +kernel), ⟨by decide +kernel, by decide +kernel⟩, by decide +kernel⟩
theorem lkl_49 : LkV RL 49 yX11_gone cX11_gone 5 (some .int) 3 := ⟨gw_t6 173 (by decide +kernel) (by decide +kernel), mk_X11_gone⟩
theorem mk_X10_pay : .instanceMethod yX10_pay ∈ GW ∧ .selects yX10_pay.cls yX10_pay yX10_pay ∈ GW ∧ .initialized yX10_pay.cls ∈ GW ∧ .code yX10_pay cX10_pay 4 (some .int) ∈ GW ∧ (yX10_pay.cls ≠ "java/lang/invoke/MethodHandle" ∧ yX10_pay.cls ≠ "java/lang/invoke/VarHandle") ∧ (parseMethodDescriptor yX10_pay.desc).map (fun d => d.parameters.length) = some 3 := ⟨gw_t2 236 (by decide +kernel) (by decide +kernel), gw_t2 237 (by decide +kernel) (by decide +kernel), gw_t1 1 (by decide +kernel) (by decide +kernel), gw_t2 238 (by decide +kernel) (by decide +kernel), ⟨by decide +kernel, by decide +kernel⟩, by decide +kernel⟩
theorem lkl_50 : LkV RL 50 yX10_pay cX10_pay 4 (some .int) 3 := ⟨gw_t2 235 (by decide +kernel) (by decide +kernel), mk_X10_pay⟩
theorem mk_X11_pay : .instanceMethod yX11_pay ∈ GW ∧ .selects yX11_pay.cls yX11_pay yX11_pay ∈ GW ∧ .initialized yX11_pay.cls ∈ GW ∧ .code yX11_pay cX11_pay 4 (some .int) ∈ GW ∧ (yX11_pay.cls ≠ "java/lang/invoke/MethodHandle" ∧ yX11_pay.cls ≠ "java/lang/invoke/VarHandle") ∧ (parseMethodDescriptor yX11_pay.desc).map (fun d => d.parameters.length) = some 3 := ⟨gw_t6 178 (by decide +kernel) (by decide +kernel), gw_t6 179 (by decide +kernel) (by decide +kernel), gw_t1 11 (by decide +kernel) (by decide +kernel), gw_t6 180 (by decide +kernel) (by decide +kernel), ⟨by decide +kernel, by decide +kernel⟩, by decide +kernel⟩
theorem lkl_53 : LkV RL 53 yX11_pay cX11_pay 4 (some .int) 3 := ⟨gw_t6 177 (by decide +kernel) (by decide +kernel), mk_X11_pay⟩
theorem mk_X10_strike : .instanceMethod yX10_strike ∈ GW ∧ .selects yX10_strike.cls yX10_strike yX10_strike ∈ GW ∧ .initialized yX10_strike.cls ∈ GW ∧ .code yX10_strike cX10_strike 2 (some .int) ∈ GW ∧ (yX10_strike.cls ≠ "java/lang/invoke/MethodHandle" ∧ yX10_strike.cls ≠ "java/lang/invoke/VarHandle") ∧ (parseMethodDescriptor yX10_strike.desc).map (fun d => d.parameters.length) = some 1 := ⟨gw_t3 0 (by decide +kernel) (by decide +kernel), gw_t3 1 (by decide +kernel) (by decide +kernel), gw_t1 1 (by decide +kernel) (by decide +kernel), gw_t3 2 (by decide +kernel) (by decide +kernel), ⟨by decide +kernel, by decide +kernel⟩, by decide +kernel⟩
theorem lkl_54 : LkV RL 54 yX10_strike cX10_strike 2 (some .int) 1 := ⟨gw_t2 239 (by decide +kernel) (by decide +kernel), mk_X10_strike⟩
theorem mk_X11_strike : .instanceMethod yX11_strike ∈ GW ∧ .selects yX11_strike.cls yX11_strike yX11_strike ∈ GW ∧ .initialized yX11_strike.cls ∈ GW ∧ .code yX11_strike cX11_strike 2 (some .int) ∈ GW ∧ (yX11_strike.cls ≠ "java/lang/invoke/MethodHandle" ∧ yX11_strike.cls ≠ "java/lang/invoke/VarHandle") ∧ (parseMethodDescriptor yX11_strike.desc).map (fun d => d.parameters.length) = some 1 := ⟨gw_t6 182 (by decide +kernel) (by decide +kernel), gw_t6 183 (by decide +kernel) (by decide +kernel), gw_t1 11 (by decide +kernel) (by decide +kernel), gw_t6 184 (by decide +kernel) (by decide +kernel), ⟨by decide +kernel, by decide +kernel⟩, by decide +kernel⟩
theorem lkl_57 : LkV RL 57 yX11_strike cX11_strike 2 (some .int) 1 := ⟨gw_t6 181 (by decide +kernel) (by decide +kernel), mk_X11_strike⟩
theorem mk_X10_known : .instanceMethod yX10_known ∈ GW ∧ .selects yX10_known.cls yX10_known yX10_known ∈ GW ∧ .initialized yX10_known.cls ∈ GW ∧ .code yX10_known cX10_known 3 (some .int) ∈ GW ∧ (yX10_known.cls ≠ "java/lang/invoke/MethodHandle" ∧ yX10_known.cls ≠ "java/lang/invoke/VarHandle") ∧ (parseMethodDescriptor yX10_known.desc).map (fun d => d.parameters.length) = some 2 := ⟨gw_t3 5 (by decide +kernel) (by decide +kernel), gw_t3 6 (by decide +kernel) (by decide +kernel), gw_t1 1 (by decide +kernel) (by decide +kernel), gw_t3 7 (by decide +kernel) (by decide +kernel), ⟨by decide +kernel, by decide +kernel⟩, by decide +kernel⟩
theorem lkl_58 : LkV RL 58 yX10_known cX10_known 3 (some .int) 2 := ⟨gw_t3 4 (by decide +kernel) (by decide +kernel), mk_X10_known⟩
theorem mk_X11_known : .instanceMethod yX11_known ∈ GW ∧ .selects yX11_known.cls yX11_known yX11_known ∈ GW ∧ .initialized yX11_known.cls ∈ GW ∧ .code yX11_known cX11_known 3 (some .int) ∈ GW ∧ (yX11_known.cls ≠ "java/lang/invoke/MethodHandle" ∧ yX11_known.cls ≠ "java/lang/invoke/VarHandle") ∧ (parseMethodDescriptor yX11_known.desc).map (fun d => d.parameters.length) = some 2 := ⟨gw_t6 186 (by decide +kernel) (by decide +kernel), gw_t6 187 (by decide +kernel) (by decide +kernel), gw_t1 11 (by decide +kernel) (by decide +kernel), gw_t6 188 (by decide +kernel) (by decide +kernel), ⟨by decide +kernel, by decide +kernel⟩, by decide +kernel⟩
theorem lkl_61 : LkV RL 61 yX11_known cX11_known 3 (some .int) 2 := ⟨gw_t6 185 (by decide +kernel) (by decide +kernel), mk_X11_known⟩
theorem mk_X10_as : .instanceMethod yX10_as ∈ GW ∧ .selects yX10_as.cls yX10_as yX10_as ∈ GW ∧ .initialized yX10_as.cls ∈ GW ∧ .code yX10_as cX10_as 4 (some .int) ∈ GW ∧ (yX10_as.cls ≠ "java/lang/invoke/MethodHandle" ∧ yX10_as.cls ≠ "java/lang/invoke/VarHandle") ∧ (parseMethodDescriptor yX10_as.desc).map (fun d => d.parameters.length) = some 3 := ⟨gw_t3 9 (by decide +kernel) (by decide +kernel), gw_t3 10 (by decide +kernel) (by decide +kernel), gw_t1 1 (by decide +kernel) (by decide +kernel), gw_t3 11 (by decide +kernel) (by decide +kernel), ⟨by decide +kernel, by decide +kernel⟩, by decide +kernel⟩
theorem lkl_62 : LkV RL 62 yX10_as cX10_as 4 (some .int) 3 := ⟨gw_t3 8 (by decide +kernel) (by decide +kernel), mk_X10_as⟩
theorem mk_X11_as : .instanceMethod yX11_as ∈ GW ∧ .selects yX11_as.cls yX11_as yX11_as ∈ GW ∧ .initialized yX11_as.cls ∈ GW ∧ .code yX11_as cX11_as 4 (some .int) ∈ GW ∧ (yX11_as.cls ≠ "java/lang/invoke/MethodHandle" ∧ yX11_as.cls ≠ "java/lang/invoke/VarHandle") ∧ (parseMethodDescriptor yX11_as.desc).map (fun d => d.parameters.length) = some 3 := ⟨gw_t6 190 (by decide +kernel) (by decide +kernel), gw_t6 191 (by decide +kernel) (by decide +kernel), gw_t1 11 (by decide +kernel) (by decide +kernel), gw_t6 192 (by decide +kernel) (by decide +kernel), ⟨by decide +kernel, by decide +kernel⟩, by decide +kernel⟩
theorem lkl_65 : LkV RL 65 yX11_as cX11_as 4 (some .int) 3 := ⟨gw_t6 189 (by decide +kernel) (by decide +kernel), mk_X11_as⟩
theorem mk_X10_live : .instanceMethod yX10_live ∈ GW ∧ .selects yX10_live.cls yX10_live yX10_live ∈ GW ∧ .initialized yX10_live.cls ∈ GW ∧ .code yX10_live cX10_live 5 (some .int) ∈ GW ∧ (yX10_live.cls ≠ "java/lang/invoke/MethodHandle" ∧ yX10_live.cls ≠ "java/lang/invoke/VarHandle") ∧ (parseMethodDescriptor yX10_live.desc).map (fun d => d.parameters.length) = some 4 := ⟨gw_t3 87 (by decide +kernel) (by decide +kernel), gw_t3 88 (by decide +kernel) (by decide +kernel), gw_t1 1 (by decide +kernel) (by decide +kernel), gw_t3 89 (by decide +kernel) (by decide +kernel), ⟨by decide +kernel, by decide +kernel⟩, by decide +kernel⟩
theorem lkl_66 : LkV RL 66 yX10_live cX10_live 5 (some .int) 4 := ⟨gw_t3 86 (by decide +kernel) (by decide +kernel), mk_X10_live⟩
theorem mk_X11_live : .instanceMethod yX11_live ∈ GW ∧ .selects yX11_live.cls yX11_live yX11_live ∈ GW ∧ .initialized yX11_live.cls ∈ GW ∧ .code yX11_live cX11_live 5 (some .int) ∈ GW ∧ (yX11_live.cls ≠ "java/lang/invoke/MethodHandle" ∧ yX11_live.cls ≠ "java/lang/invoke/VarHandle") ∧ (parseMethodDescriptor yX11_live.desc).map (fun d => d.parameters.length) = some 4 := ⟨gw_t7 75 (by decide +kernel) (by decide +kernel), gw_t7 76 (by decide +kernel) (by decide +kernel), gw_t1 11 (by decide +kernel) (by decide +kernel), gw_t7 77 (by decide +kernel) (by decide +kernel), ⟨by decide +kernel, by decide +kernel⟩, by decide +kernel⟩
theorem lkl_69 : LkV RL 69 yX11_live cX11_live 5 (some .int) 4 := ⟨gw_t7 74 (by decide +kernel) (by decide +kernel), mk_X11_live⟩
theorem mk_X10_part : .instanceMethod yX10_part ∈ GW ∧ .selects yX10_part.cls yX10_part yX10_part ∈ GW ∧ .initialized yX10_part.cls ∈ GW ∧ .code yX10_part cX10_part 7 (some .int) ∈ GW ∧ (yX10_part.cls ≠ "java/lang/invoke/MethodHandle" ∧ yX10_part.cls ≠ "java/lang/invoke/VarHandle") ∧ (parseMethodDescriptor yX10_part.desc).map (fun d => d.parameters.length) = some 4 := ⟨gw_t3 95 (by decide +kernel) (by decide +kernel), gw_t3 96 (by decide +kernel) (by decide +kernel), gw_t1 1 (by decide +kernel) (by decide +kernel), gw_t3 97 (by decide +kernel) (by decide +kernel), ⟨by decide +kernel, by decide +kernel⟩, by decide +kernel⟩
theorem lkl_70 : LkV RL 70 yX10_part cX10_part 7 (some .int) 4 := ⟨gw_t3 94 (by decide +kernel) (by decide +kernel), mk_X10_part⟩
theorem mk_X11_part : .instanceMethod yX11_part ∈ GW ∧ .selects yX11_part.cls yX11_part yX11_part ∈ GW ∧ .initialized yX11_part.cls ∈ GW ∧ .code yX11_part cX11_part 5 (some .int) ∈ GW ∧ (yX11_part.cls ≠ "java/lang/invoke/MethodHandle" ∧ yX11_part.cls ≠ "java/lang/invoke/VarHandle") ∧ (parseMethodDescriptor yX11_part.desc).map (fun d => d.parameters.length) = some 4 := ⟨gw_t7 79 (by decide +kernel) (by decide +kernel), gw_t7 80 (by decide +kernel) (by decide +kernel), gw_t1 11 (by decide +kernel) (by decide +kernel), gw_t7 81 (by decide +kernel) (by decide +kernel), ⟨by decide +kernel, by decide +kernel⟩, by decide +kernel⟩
theorem lkl_73 : LkV RL 73 yX11_part cX11_part 5 (some .int) 4 := ⟨gw_t7 78 (by decide +kernel) (by decide +kernel), mk_X11_part⟩
theorem mk_X10_feed : .instanceMethod yX10_feed ∈ GW ∧ .selects yX10_feed.cls yX10_feed yX10_feed ∈ GW ∧ .initialized yX10_feed.cls ∈ GW ∧ .code yX10_feed cX10_feed 5 (some .int) ∈ GW ∧ (yX10_feed.cls ≠ "java/lang/invoke/MethodHandle" ∧ yX10_feed.cls ≠ "java/lang/invoke/VarHandle") ∧ (parseMethodDescriptor yX10_feed.desc).map (fun d => d.parameters.length) = some 2 := ⟨gw_t3 101 (by decide +kernel) (by decide +kernel), gw_t3 102 (by decide +kernel) (by decide +kernel), gw_t1 1 (by decide +kernel) (by decide +kernel), gw_t3 103 (by decide +kernel) (by decide +kernel), ⟨by decide +kernel, by decide +kernel⟩, by decide +kernel⟩
theorem lkl_76 : LkV RL 76 yX10_feed cX10_feed 5 (some .int) 2 := ⟨gw_t3 100 (by decide +kernel) (by decide +kernel), mk_X10_feed⟩
theorem mk_X11_feed : .instanceMethod yX11_feed ∈ GW ∧ .selects yX11_feed.cls yX11_feed yX11_feed ∈ GW ∧ .initialized yX11_feed.cls ∈ GW ∧ .code yX11_feed cX11_feed 5 (some .int) ∈ GW ∧ (yX11_feed.cls ≠ "java/lang/invoke/MethodHandle" ∧ yX11_feed.cls ≠ "java/lang/invoke/VarHandle") ∧ (parseMethodDescriptor yX11_feed.desc).map (fun d => d.parameters.length) = some 2 := ⟨gw_t7 86 (by decide +kernel) (by decide +kernel), gw_t7 87 (by decide +kernel) (by decide +kernel), gw_t1 11 (by decide +kernel) (by decide +kernel), gw_t7 88 (by decide +kernel) (by decide +kernel), ⟨by decide +kernel, by decide +kernel⟩, by decide +kernel⟩
theorem lkl_80 : LkV RL 80 yX11_feed cX11_feed 5 (some .int) 2 := ⟨gw_t7 85 (by decide +kernel) (by decide +kernel), mk_X11_feed⟩
theorem mk_X10_text : .instanceMethod yX10_text ∈ GW ∧ .selects yX10_text.cls yX10_text yX10_text ∈ GW ∧ .initialized yX10_text.cls ∈ GW ∧ .code yX10_text cX10_text 4 (some .int) ∈ GW ∧ (yX10_text.cls ≠ "java/lang/invoke/MethodHandle" ∧ yX10_text.cls ≠ "java/lang/invoke/VarHandle") ∧ (parseMethodDescriptor yX10_text.desc).map (fun d => d.parameters.length) = some 1 := ⟨gw_t3 109 (by decide +kernel) (by decide +kernel), gw_t3 110 (by decide +kernel) (by decide +kernel), gw_t1 1 (by decide +kernel) (by decide +kernel), gw_t3 111 (by decide +kernel) (by decide +kernel), ⟨by decide +kernel, by decide +kernel⟩, by decide +kernel⟩
theorem lkl_81 : LkV RL 81 yX10_text cX10_text 4 (some .int) 1 := ⟨gw_t3 108 (by decide +kernel) (by decide +kernel), mk_X10_text⟩
theorem mk_X11_text : .instanceMethod yX11_text ∈ GW ∧ .selects yX11_text.cls yX11_text yX11_text ∈ GW ∧ .initialized yX11_text.cls ∈ GW ∧ .code yX11_text cX11_text 3 (some .int) ∈ GW ∧ (yX11_text.cls ≠ "java/lang/invoke/MethodHandle" ∧ yX11_text.cls ≠ "java/lang/invoke/VarHandle") ∧ (parseMethodDescriptor yX11_text.desc).map (fun d => d.parameters.length) = some 1 := ⟨gw_t7 91 (by decide +kernel) (by decide +kernel), gw_t7 92 (by decide +kernel) (by decide +kernel), gw_t1 11 (by decide +kernel) (by decide +kernel), gw_t7 93 (by decide +kernel) (by decide +kernel), ⟨by decide +kernel, by decide +kernel⟩, by decide +kernel⟩
theorem lkl_84 : LkV RL 84 yX11_text cX11_text 3 (some .int) 1 := ⟨gw_t7 90 (by decide +kernel) (by decide +kernel), mk_X11_text⟩
theorem mk_X10_force : .instanceMethod yX10_force ∈ GW ∧ .selects yX10_force.cls yX10_force yX10_force ∈ GW ∧ .initialized yX10_force.cls ∈ GW ∧ .code yX10_force cX10_force 4 (some .int) ∈ GW ∧ (yX10_force.cls ≠ "java/lang/invoke/MethodHandle" ∧ yX10_force.cls ≠ "java/lang/invoke/VarHandle") ∧ (parseMethodDescriptor yX10_force.desc).map (fun d => d.parameters.length) = some 2 := ⟨gw_t4 62 (by decide +kernel) (by decide +kernel), gw_t4 63 (by decide +kernel) (by decide +kernel), gw_t1 1 (by decide +kernel) (by decide +kernel), gw_t4 64 (by decide +kernel) (by decide +kernel), ⟨by decide +kernel, by decide +kernel⟩, by decide +kernel⟩
theorem lkl_85 : LkV RL 85 yX10_force cX10_force 4 (some .int) 2 := ⟨gw_t4 61 (by decide +kernel) (by decide +kernel), mk_X10_force⟩
theorem mk_X11_force : .instanceMethod yX11_force ∈ GW ∧ .selects yX11_force.cls yX11_force yX11_force ∈ GW ∧ .initialized yX11_force.cls ∈ GW ∧ .code yX11_force cX11_force 3 (some .int) ∈ GW ∧ (yX11_force.cls ≠ "java/lang/invoke/MethodHandle" ∧ yX11_force.cls ≠ "java/lang/invoke/VarHandle") ∧ (parseMethodDescriptor yX11_force.desc).map (fun d => d.parameters.length) = some 2 := ⟨gw_t7 104 (by decide +kernel) (by decide +kernel), gw_t7 105 (by decide +kernel) (by decide +kernel), gw_t1 11 (by decide +kernel) (by decide +kernel), gw_t7 106 (by decide +kernel) (by decide +kernel), ⟨by decide +kernel, by decide +kernel⟩, by decide +kernel⟩
theorem lkl_88 : LkV RL 88 yX11_force cX11_force 3 (some .int) 2 := ⟨gw_t7 103 (by decide +kernel) (by decide +kernel), mk_X11_force⟩
theorem mk_X10_out : .instanceMethod yX10_out ∈ GW ∧ .selects yX10_out.cls yX10_out yX10_out ∈ GW ∧ .initialized yX10_out.cls ∈ GW ∧ .code yX10_out cX10_out 6 (some .int) ∈ GW ∧ (yX10_out.cls ≠ "java/lang/invoke/MethodHandle" ∧ yX10_out.cls ≠ "java/lang/invoke/VarHandle") ∧ (parseMethodDescriptor yX10_out.desc).map (fun d => d.parameters.length) = some 3 := ⟨gw_t4 71 (by decide +kernel) (by decide +kernel), gw_t4 72 (by decide +kernel) (by decide +kernel), gw_t1 1 (by decide +kernel) (by decide +kernel), gw_t4 73 (by decide +kernel) (by decide +kernel), ⟨by decide +kernel, by decide +kernel⟩, by decide +kernel⟩
theorem lkl_89 : LkV RL 89 yX10_out cX10_out 6 (some .int) 3 := ⟨gw_t4 70 (by decide +kernel) (by decide +kernel), mk_X10_out⟩
theorem mk_X11_out : .instanceMethod yX11_out ∈ GW ∧ .selects yX11_out.cls yX11_out yX11_out ∈ GW ∧ .initialized yX11_out.cls ∈ GW ∧ .code yX11_out cX11_out 6 (some .int) ∈ GW ∧ (yX11_out.cls ≠ "java/lang/invoke/MethodHandle" ∧ yX11_out.cls ≠ "java/lang/invoke/VarHandle") ∧ (parseMethodDescriptor yX11_out.desc).map (fun d => d.parameters.length) = some 3 := ⟨gw_t7 108 (by decide +kernel) (by decide +kernel), gw_t7 109 (by decide +kernel) (by decide +kernel), gw_t1 11 (by decide +kernel) (by decide +kernel), gw_t7 110 (by decide +kernel) (by decide +kernel), ⟨by decide +kernel, by decide +kernel⟩, by decide +kernel⟩
theorem lkl_92 : LkV RL 92 yX11_out cX11_out 6 (some .int) 3 := ⟨gw_t7 107 (by decide +kernel) (by decide +kernel), mk_X11_out⟩
theorem mk_X10_rule : .instanceMethod yX10_rule ∈ GW ∧ .selects yX10_rule.cls yX10_rule yX10_rule ∈ GW ∧ .initialized yX10_rule.cls ∈ GW ∧ .code yX10_rule cX10_rule 6 (some .int) ∈ GW ∧ (yX10_rule.cls ≠ "java/lang/invoke/MethodHandle" ∧ yX10_rule.cls ≠ "java/lang/invoke/VarHandle") ∧ (parseMethodDescriptor yX10_rule.desc).map (fun d => d.parameters.length) = some 4 := ⟨gw_t4 78 (by decide +kernel) (by decide +kernel), gw_t4 79 (by decide +kernel) (by decide +kernel), gw_t1 1 (by decide +kernel) (by decide +kernel), gw_t4 80 (by decide +kernel) (by decide +kernel), ⟨by decide +kernel, by decide +kernel⟩, by decide +kernel⟩
theorem lkl_93 : LkV RL 93 yX10_rule cX10_rule 6 (some .int) 4 := ⟨gw_t4 77 (by decide +kernel) (by decide +kernel), mk_X10_rule⟩
theorem mk_X11_rule : .instanceMethod yX11_rule ∈ GW ∧ .selects yX11_rule.cls yX11_rule yX11_rule ∈ GW ∧ .initialized yX11_rule.cls ∈ GW ∧ .code yX11_rule cX11_rule 5 (some .int) ∈ GW ∧ (yX11_rule.cls ≠ "java/lang/invoke/MethodHandle" ∧ yX11_rule.cls ≠ "java/lang/invoke/VarHandle") ∧ (parseMethodDescriptor yX11_rule.desc).map (fun d => d.parameters.length) = some 4 := ⟨gw_t7 112 (by decide +kernel) (by decide +kernel), gw_t7 113 (by decide +kernel) (by decide +kernel), gw_t1 11 (by decide +kernel) (by decide +kernel), gw_t7 114 (by decide +kernel) (by decide +kernel), ⟨by decide +kernel, by decide +kernel⟩, by decide +kernel⟩
theorem lkl_96 : LkV RL 96 yX11_rule cX11_rule 5 (some .int) 4 := ⟨gw_t7 111 (by decide +kernel) (by decide +kernel), mk_X11_rule⟩
theorem mk_X10_why : .instanceMethod yX10_why ∈ GW ∧ .selects yX10_why.cls yX10_why yX10_why ∈ GW ∧ .initialized yX10_why.cls ∈ GW ∧ .code yX10_why cX10_why 6 (some .int) ∈ GW ∧ (yX10_why.cls ≠ "java/lang/invoke/MethodHandle" ∧ yX10_why.cls ≠ "java/lang/invoke/VarHandle") ∧ (parseMethodDescriptor yX10_why.desc).map (fun d => d.parameters.length) = some 4 := ⟨gw_t4 91 (by decide +kernel) (by decide +kernel), gw_t4 92 (by decide +kernel) (by decide +kernel), gw_t1 1 (by decide +kernel) (by decide +kernel), gw_t4 93 (by decide +kernel) (by decide +kernel), ⟨by decide +kernel, by decide +kernel⟩, by decide +kernel⟩
theorem lkl_97 : LkV RL 97 yX10_why cX10_why 6 (some .int) 4 := ⟨gw_t4 90 (by decide +kernel) (by decide +kernel), mk_X10_why⟩
theorem mk_X11_why : .instanceMethod yX11_why ∈ GW ∧ .selects yX11_why.cls yX11_why yX11_why ∈ GW ∧ .initialized yX11_why.cls ∈ GW ∧ .code yX11_why cX11_why 5 (some .int) ∈ GW ∧ (yX11_why.cls ≠ "java/lang/invoke/MethodHandle" ∧ yX11_why.cls ≠ "java/lang/invoke/VarHandle") ∧ (parseMethodDescriptor yX11_why.desc).map (fun d => d.parameters.length) = some 4 := ⟨gw_t7 120 (by decide +kernel) (by decide +kernel), gw_t7 121 (by decide +kernel) (by decide +kernel), gw_t1 11 (by decide +kernel) (by decide +kernel), gw_t7 122 (by decide +kernel) (by decide +kernel), ⟨by decide +kernel, by decide +kernel⟩, by decide +kernel⟩
theorem lkl_100 : LkV RL 100 yX11_why cX11_why 5 (some .int) 4 := ⟨gw_t7 119 (by decide +kernel) (by decide +kernel), mk_X11_why⟩
theorem mk_X10_quarrel : .instanceMethod yX10_quarrel ∈ GW ∧ .selects yX10_quarrel.cls yX10_quarrel yX10_quarrel ∈ GW ∧ .initialized yX10_quarrel.cls ∈ GW ∧ .code yX10_quarrel cX10_quarrel 6 (some .int) ∈ GW ∧ (yX10_quarrel.cls ≠ "java/lang/invoke/MethodHandle" ∧ yX10_quarrel.cls ≠ "java/lang/invoke/VarHandle") ∧ (parseMethodDescriptor yX10_quarrel.desc).map (fun d => d.parameters.length) = some 4 := ⟨gw_t4 95 (by decide +kernel) (by decide +kernel), gw_t4 96 (by decide +kernel) (by decide +kernel), gw_t1 1 (by decide +kernel) (by decide +kernel), gw_t4 97 (by decide +kernel) (by decide +kernel), ⟨by decide +kernel, by decide +kernel⟩, by decide +kernel⟩
theorem lkl_101 : LkV RL 101 yX10_quarrel cX10_quarrel 6 (some .int) 4 := ⟨gw_t4 94 (by decide +kernel) (by decide +kernel), mk_X10_quarrel⟩
theorem mk_X11_quarrel : .instanceMethod yX11_quarrel ∈ GW ∧ .selects yX11_quarrel.cls yX11_quarrel yX11_quarrel ∈ GW ∧ .initialized yX11_quarrel.cls ∈ GW ∧ .code yX11_quarrel cX11_quarrel 11 (some .int) ∈ GW ∧ (yX11_quarrel.cls ≠ "java/lang/invoke/MethodHandle" ∧ yX11_quarrel.cls ≠ "java/lang/invoke/VarHandle") ∧ (parseMethodDescriptor yX11_quarrel.desc).map (fun d => d.parameters.length) = some 4 := ⟨gw_t7 127 (by decide +kernel) (by decide +kernel), gw_t7 128 (by decide +kernel) (by decide +kernel), gw_t1 11 (by decide +kernel) (by decide +kernel), gw_t7 129 (by decide +kernel) (by decide +kernel), ⟨by decide +kernel, by decide +kernel⟩, by decide +kernel⟩
theorem lkl_104 : LkV RL 104 yX11_quarrel cX11_quarrel 11 (some .int) 4 := ⟨gw_t7 126 (by decide +kernel) (by decide +kernel), mk_X11_quarrel⟩
theorem mk_X10_owe : .instanceMethod yX10_owe ∈ GW ∧ .selects yX10_owe.cls yX10_owe yX10_owe ∈ GW ∧ .initialized yX10_owe.cls ∈ GW ∧ .code yX10_owe cX10_owe 5 (some .long) ∈ GW ∧ (yX10_owe.cls ≠ "java/lang/invoke/MethodHandle" ∧ yX10_owe.cls ≠ "java/lang/invoke/VarHandle") ∧ (parseMethodDescriptor yX10_owe.desc).map (fun d => d.parameters.length) = some 4 := ⟨gw_t4 103 (by decide +kernel) (by decide +kernel), gw_t4 104 (by decide +kernel) (by decide +kernel), gw_t1 1 (by decide +kernel) (by decide +kernel), gw_t4 105 (by decide +kernel) (by decide +kernel), ⟨by decide +kernel, by decide +kernel⟩, by decide +kernel⟩
theorem lkl_105 : LkV RL 105 yX10_owe cX10_owe 5 (some .long) 4 := ⟨gw_t4 102 (by decide +kernel) (by decide +kernel), mk_X10_owe⟩
theorem mk_X11_owe : .instanceMethod yX11_owe ∈ GW ∧ .selects yX11_owe.cls yX11_owe yX11_owe ∈ GW ∧ .initialized yX11_owe.cls ∈ GW ∧ .code yX11_owe cX11_owe 5 (some .long) ∈ GW ∧ (yX11_owe.cls ≠ "java/lang/invoke/MethodHandle" ∧ yX11_owe.cls ≠ "java/lang/invoke/VarHandle") ∧ (parseMethodDescriptor yX11_owe.desc).map (fun d => d.parameters.length) = some 4 := ⟨gw_t7 131 (by decide +kernel) (by decide +kernel), gw_t7 132 (by decide +kernel) (by decide +kernel), gw_t1 11 (by decide +kernel) (by decide +kernel), gw_t7 133 (by decide +kernel) (by decide +kernel), ⟨by decide +kernel, by decide +kernel⟩, by decide +kernel⟩
theorem lkl_109 : LkV RL 109 yX11_owe cX11_owe 5 (some .long) 4 := ⟨gw_t7 130 (by decide +kernel) (by decide +kernel), mk_X11_owe⟩
theorem mk_X10_vacant : .instanceMethod yX10_vacant ∈ GW ∧ .selects yX10_vacant.cls yX10_vacant yX10_vacant ∈ GW ∧ .initialized yX10_vacant.cls ∈ GW ∧ .code yX10_vacant cX10_vacant 3 (some .long) ∈ GW ∧ (yX10_vacant.cls ≠ "java/lang/invoke/MethodHandle" ∧ yX10_vacant.cls ≠ "java/lang/invoke/VarHandle") ∧ (parseMethodDescriptor yX10_vacant.desc).map (fun d => d.parameters.length) = some 2 := ⟨gw_t4 135 (by decide +kernel) (by decide +kernel), gw_t4 136 (by decide +kernel) (by decide +kernel), gw_t1 1 (by decide +kernel) (by decide +kernel), gw_t4 137 (by decide +kernel) (by decide +kernel), ⟨by decide +kernel, by decide +kernel⟩, by decide +kernel⟩
theorem lkl_110 : LkV RL 110 yX10_vacant cX10_vacant 3 (some .long) 2 := ⟨gw_t4 134 (by decide +kernel) (by decide +kernel), mk_X10_vacant⟩
theorem mk_X11_vacant : .instanceMethod yX11_vacant ∈ GW ∧ .selects yX11_vacant.cls yX11_vacant yX11_vacant ∈ GW ∧ .initialized yX11_vacant.cls ∈ GW ∧ .code yX11_vacant cX11_vacant 3 (some .long) ∈ GW ∧ (yX11_vacant.cls ≠ "java/lang/invoke/MethodHandle" ∧ yX11_vacant.cls ≠ "java/lang/invoke/VarHandle") ∧ (parseMethodDescriptor yX11_vacant.desc).map (fun d => d.parameters.length) = some 2 := ⟨gw_t7 168 (by decide +kernel) (by decide +kernel), gw_t7 169 (by decide +kernel) (by decide +kernel), gw_t1 11 (by decide +kernel) (by decide +kernel), gw_t7 170 (by decide +kernel) (by decide +kernel), ⟨by decide +kernel, by decide +kernel⟩, by decide +kernel⟩
theorem lkl_114 : LkV RL 114 yX11_vacant cX11_vacant 3 (some .long) 2 := ⟨gw_t7 167 (by decide +kernel) (by decide +kernel), mk_X11_vacant⟩
theorem mk_X10_rent : .instanceMethod yX10_rent ∈ GW ∧ .selects yX10_rent.cls yX10_rent yX10_rent ∈ GW ∧ .initialized yX10_rent.cls ∈ GW ∧ .code yX10_rent cX10_rent 4 (some .long) ∈ GW ∧ (yX10_rent.cls ≠ "java/lang/invoke/MethodHandle" ∧ yX10_rent.cls ≠ "java/lang/invoke/VarHandle") ∧ (parseMethodDescriptor yX10_rent.desc).map (fun d => d.parameters.length) = some 3 := ⟨gw_t4 150 (by decide +kernel) (by decide +kernel), gw_t4 151 (by decide +kernel) (by decide +kernel), gw_t1 1 (by decide +kernel) (by decide +kernel), gw_t4 152 (by decide +kernel) (by decide +kernel), ⟨by decide +kernel, by decide +kernel⟩, by decide +kernel⟩
theorem lkl_115 : LkV RL 115 yX10_rent cX10_rent 4 (some .long) 3 := ⟨gw_t4 149 (by decide +kernel) (by decide +kernel), mk_X10_rent⟩
theorem mk_X11_rent : .instanceMethod yX11_rent ∈ GW ∧ .selects yX11_rent.cls yX11_rent yX11_rent ∈ GW ∧ .initialized yX11_rent.cls ∈ GW ∧ .code yX11_rent cX11_rent 4 (some .long) ∈ GW ∧ (yX11_rent.cls ≠ "java/lang/invoke/MethodHandle" ∧ yX11_rent.cls ≠ "java/lang/invoke/VarHandle") ∧ (parseMethodDescriptor yX11_rent.desc).map (fun d => d.parameters.length) = some 3 := ⟨gw_t7 176 (by decide +kernel) (by decide +kernel), gw_t7 177 (by decide +kernel) (by decide +kernel), gw_t1 11 (by decide +kernel) (by decide +kernel), gw_t7 178 (by decide +kernel) (by decide +kernel), ⟨by decide +kernel, by decide +kernel⟩, by decide +kernel⟩
theorem lkl_119 : LkV RL 119 yX11_rent cX11_rent 4 (some .long) 3 := ⟨gw_t7 175 (by decide +kernel) (by decide +kernel), mk_X11_rent⟩
theorem mk_X10_widow : .instanceMethod yX10_widow ∈ GW ∧ .selects yX10_widow.cls yX10_widow yX10_widow ∈ GW ∧ .initialized yX10_widow.cls ∈ GW ∧ .code yX10_widow cX10_widow 4 (some .long) ∈ GW ∧ (yX10_widow.cls ≠ "java/lang/invoke/MethodHandle" ∧ yX10_widow.cls ≠ "java/lang/invoke/VarHandle") ∧ (parseMethodDescriptor yX10_widow.desc).map (fun d => d.parameters.length) = some 3 := ⟨gw_t4 177 (by decide +kernel) (by decide +kernel), gw_t4 178 (by decide +kernel) (by decide +kernel), gw_t1 1 (by decide +kernel) (by decide +kernel), gw_t4 179 (by decide +kernel) (by decide +kernel), ⟨by decide +kernel, by decide +kernel⟩, by decide +kernel⟩
theorem lkl_120 : LkV RL 120 yX10_widow cX10_widow 4 (some .long) 3 := ⟨gw_t4 176 (by decide +kernel) (by decide +kernel), mk_X10_widow⟩
theorem mk_X11_widow : .instanceMethod yX11_widow ∈ GW ∧ .selects yX11_widow.cls yX11_widow yX11_widow ∈ GW ∧ .initialized yX11_widow.cls ∈ GW ∧ .code yX11_widow cX11_widow 4 (some .long) ∈ GW ∧ (yX11_widow.cls ≠ "java/lang/invoke/MethodHandle" ∧ yX11_widow.cls ≠ "java/lang/invoke/VarHandle") ∧ (parseMethodDescriptor yX11_widow.desc).map (fun d => d.parameters.length) = some 3 := ⟨gw_t7 196 (by decide +kernel) (by decide +kernel), gw_t7 197 (by decide +kernel) (by decide +kernel), gw_t1 11 (by decide +kernel) (by decide +kernel), gw_t7 198 (by decide +kernel) (by decide +kernel), ⟨by decide +kernel, by decide +kernel⟩, by decide +kernel⟩
theorem lkl_123 : LkV RL 123 yX11_widow cX11_widow 4 (some .long) 3 := ⟨gw_t7 195 (by decide +kernel) (by decide +kernel), mk_X11_widow⟩
theorem mk_X10_sum : .instanceMethod yX10_sum ∈ GW ∧ .selects yX10_sum.cls yX10_sum yX10_sum ∈ GW ∧ .initialized yX10_sum.cls ∈ GW ∧ .code yX10_sum cX10_sum 4 (some .long) ∈ GW ∧ (yX10_sum.cls ≠ "java/lang/invoke/MethodHandle" ∧ yX10_sum.cls ≠ "java/lang/invoke/VarHandle") ∧ (parseMethodDescriptor yX10_sum.desc).map (fun d => d.parameters.length) = some 3 := ⟨gw_t4 182 (by decide +kernel) (by decide +kernel), gw_t4 183 (by decide +kernel) (by decide +kernel), gw_t1 1 (by decide +kernel) (by decide +kernel), gw_t4 184 (by decide +kernel) (by decide +kernel), ⟨by decide +kernel, by decide +kernel⟩, by decide +kernel⟩
theorem lkl_124 : LkV RL 124 yX10_sum cX10_sum 4 (some .long) 3 := ⟨gw_t4 181 (by decide +kernel) (by decide +kernel), mk_X10_sum⟩
theorem mk_X11_sum : .instanceMethod yX11_sum ∈ GW ∧ .selects yX11_sum.cls yX11_sum yX11_sum ∈ GW ∧ .initialized yX11_sum.cls ∈ GW ∧ .code yX11_sum cX11_sum 4 (some .long) ∈ GW ∧ (yX11_sum.cls ≠ "java/lang/invoke/MethodHandle" ∧ yX11_sum.cls ≠ "java/lang/invoke/VarHandle") ∧ (parseMethodDescriptor yX11_sum.desc).map (fun d => d.parameters.length) = some 3 := ⟨gw_t7 200 (by decide +kernel) (by decide +kernel), gw_t7 201 (by decide +kernel) (by decide +kernel), gw_t1 11 (by decide +kernel) (by decide +kernel), gw_t7 202 (by decide +kernel) (by decide +kernel), ⟨by decide +kernel, by decide +kernel⟩, by decide +kernel⟩
theorem lkl_127 : LkV RL 127 yX11_sum cX11_sum 4 (some .long) 3 := ⟨gw_t7 199 (by decide +kernel) (by decide +kernel), mk_X11_sum⟩
theorem mk_X10_begin : .instanceMethod yX10_begin ∈ GW ∧ .selects yX10_begin.cls yX10_begin yX10_begin ∈ GW ∧ .initialized yX10_begin.cls ∈ GW ∧ .code yX10_begin cX10_begin 3 (some .int) ∈ GW ∧ (yX10_begin.cls ≠ "java/lang/invoke/MethodHandle" ∧ yX10_begin.cls ≠ "java/lang/invoke/VarHandle") ∧ (parseMethodDescriptor yX10_begin.desc).map (fun d => d.parameters.length) = some 1 := ⟨gw_t4 198 (by decide +kernel) (by decide +kernel), gw_t4 199 (by decide +kernel) (by decide +kernel), gw_t1 1 (by decide +kernel) (by decide +kernel), gw_t4 200 (by decide +kernel) (by decide +kernel), ⟨by decide +kernel, by decide +kernel⟩, by decide +kernel⟩
theorem lkl_128 : LkV RL 128 yX10_begin cX10_begin 3 (some .int) 1 := ⟨gw_t4 197 (by decide +kernel) (by decide +kernel), mk_X10_begin⟩
theorem mk_X11_begin : .instanceMethod yX11_begin ∈ GW ∧ .selects yX11_begin.cls yX11_begin yX11_begin ∈ GW ∧ .initialized yX11_begin.cls ∈ GW ∧ .code yX11_begin cX11_begin 3 (some .int) ∈ GW ∧ (yX11_begin.cls ≠ "java/lang/invoke/MethodHandle" ∧ yX11_begin.cls ≠ "java/lang/invoke/VarHandle") ∧ (parseMethodDescriptor yX11_begin.desc).map (fun d => d.parameters.length) = some 1 := ⟨gw_t7 216 (by decide +kernel) (by decide +kernel), gw_t7 217 (by decide +kernel) (by decide +kernel), gw_t1 11 (by decide +kernel) (by decide +kernel), gw_t7 218 (by decide +kernel) (by decide +kernel), ⟨by decide +kernel, by decide +kernel⟩, by decide +kernel⟩
theorem lkl_131 : LkV RL 131 yX11_begin cX11_begin 3 (some .int) 1 := ⟨gw_t7 215 (by decide +kernel) (by decide +kernel), mk_X11_begin⟩
theorem mk_X10_chest : .instanceMethod yX10_chest ∈ GW ∧ .selects yX10_chest.cls yX10_chest yX10_chest ∈ GW ∧ .initialized yX10_chest.cls ∈ GW ∧ .code yX10_chest cX10_chest 3 (some .long) ∈ GW ∧ (yX10_chest.cls ≠ "java/lang/invoke/MethodHandle" ∧ yX10_chest.cls ≠ "java/lang/invoke/VarHandle") ∧ (parseMethodDescriptor yX10_chest.desc).map (fun d => d.parameters.length) = some 2 := ⟨gw_t4 203 (by decide +kernel) (by decide +kernel), gw_t4 204 (by decide +kernel) (by decide +kernel), gw_t1 1 (by decide +kernel) (by decide +kernel), gw_t4 205 (by decide +kernel) (by decide +kernel), ⟨by decide +kernel, by decide +kernel⟩, by decide +kernel⟩
theorem lkl_132 : LkV RL 132 yX10_chest cX10_chest 3 (some .long) 2 := ⟨gw_t4 202 (by decide +kernel) (by decide +kernel), mk_X10_chest⟩
theorem mk_X11_chest : .instanceMethod yX11_chest ∈ GW ∧ .selects yX11_chest.cls yX11_chest yX11_chest ∈ GW ∧ .initialized yX11_chest.cls ∈ GW ∧ .code yX11_chest cX11_chest 3 (some .long) ∈ GW ∧ (yX11_chest.cls ≠ "java/lang/invoke/MethodHandle" ∧ yX11_chest.cls ≠ "java/lang/invoke/VarHandle") ∧ (parseMethodDescriptor yX11_chest.desc).map (fun d => d.parameters.length) = some 2 := ⟨gw_t7 221 (by decide +kernel) (by decide +kernel), gw_t7 222 (by decide +kernel) (by decide +kernel), gw_t1 11 (by decide +kernel) (by decide +kernel), gw_t7 223 (by decide +kernel) (by decide +kernel), ⟨by decide +kernel, by decide +kernel⟩, by decide +kernel⟩
theorem lkl_135 : LkV RL 135 yX11_chest cX11_chest 3 (some .long) 2 := ⟨gw_t7 220 (by decide +kernel) (by decide +kernel), mk_X11_chest⟩
theorem mk_X10_loan : .instanceMethod yX10_loan ∈ GW ∧ .selects yX10_loan.cls yX10_loan yX10_loan ∈ GW ∧ .initialized yX10_loan.cls ∈ GW ∧ .code yX10_loan cX10_loan 5 (some .int) ∈ GW ∧ (yX10_loan.cls ≠ "java/lang/invoke/MethodHandle" ∧ yX10_loan.cls ≠ "java/lang/invoke/VarHandle") ∧ (parseMethodDescriptor yX10_loan.desc).map (fun d => d.parameters.length) = some 4 := ⟨gw_t4 225 (by decide +kernel) (by decide +kernel), gw_t4 226 (by decide +kernel) (by decide +kernel), gw_t1 1 (by decide +kernel) (by decide +kernel), gw_t4 227 (by decide +kernel) (by decide +kernel), ⟨by decide +kernel, by decide +kernel⟩, by decide +kernel⟩
theorem lkl_136 : LkV RL 136 yX10_loan cX10_loan 5 (some .int) 4 := ⟨gw_t4 224 (by decide +kernel) (by decide +kernel), mk_X10_loan⟩
theorem mk_X11_loan : .instanceMethod yX11_loan ∈ GW ∧ .selects yX11_loan.cls yX11_loan yX11_loan ∈ GW ∧ .initialized yX11_loan.cls ∈ GW ∧ .code yX11_loan cX11_loan 5 (some .int) ∈ GW ∧ (yX11_loan.cls ≠ "java/lang/invoke/MethodHandle" ∧ yX11_loan.cls ≠ "java/lang/invoke/VarHandle") ∧ (parseMethodDescriptor yX11_loan.desc).map (fun d => d.parameters.length) = some 4 := ⟨gw_t7 237 (by decide +kernel) (by decide +kernel), gw_t7 238 (by decide +kernel) (by decide +kernel), gw_t1 11 (by decide +kernel) (by decide +kernel), gw_t7 239 (by decide +kernel) (by decide +kernel), ⟨by decide +kernel, by decide +kernel⟩, by decide +kernel⟩
theorem lkl_139 : LkV RL 139 yX11_loan cX11_loan 5 (some .int) 4 := ⟨gw_t7 236 (by decide +kernel) (by decide +kernel), mk_X11_loan⟩
theorem mk_X10_bad : .instanceMethod yX10_bad ∈ GW ∧ .selects yX10_bad.cls yX10_bad yX10_bad ∈ GW ∧ .initialized yX10_bad.cls ∈ GW ∧ .code yX10_bad cX10_bad 4 (some .int) ∈ GW ∧ (yX10_bad.cls ≠ "java/lang/invoke/MethodHandle" ∧ yX10_bad.cls ≠ "java/lang/invoke/VarHandle") ∧ (parseMethodDescriptor yX10_bad.desc).map (fun d => d.parameters.length) = some 2 := ⟨gw_t4 233 (by decide +kernel) (by decide +kernel), gw_t4 234 (by decide +kernel) (by decide +kernel), gw_t1 1 (by decide +kernel) (by decide +kernel), gw_t4 235 (by decide +kernel) (by decide +kernel), ⟨by decide +kernel, by decide +kernel⟩, by decide +kernel⟩
theorem lkl_140 : LkV RL 140 yX10_bad cX10_bad 4 (some .int) 2 := ⟨gw_t4 232 (by decide +kernel) (by decide +kernel), mk_X10_bad⟩
theorem mk_X11_bad : .instanceMethod yX11_bad ∈ GW ∧ .selects yX11_bad.cls yX11_bad yX11_bad ∈ GW ∧ .initialized yX11_bad.cls ∈ GW ∧ .code yX11_bad cX11_bad 4 (some .int) ∈ GW ∧ (yX11_bad.cls ≠ "java/lang/invoke/MethodHandle" ∧ yX11_bad.cls ≠ "java/lang/invoke/VarHandle") ∧ (parseMethodDescriptor yX11_bad.desc).map (fun d => d.parameters.length) = some 2 := ⟨gw_t8 1 (by decide +kernel) (by decide +kernel), gw_t8 2 (by decide +kernel) (by decide +kernel), gw_t1 11 (by decide +kernel) (by decide +kernel), gw_t8 3 (by decide +kernel) (by decide +kernel), ⟨by decide +kernel, by decide +kernel⟩, by decide +kernel⟩
theorem lkl_143 : LkV RL 143 yX11_bad cX11_bad 4 (some .int) 2 := ⟨gw_t8 0 (by decide +kernel) (by decide +kernel), mk_X11_bad⟩
theorem mk_X10_due : .instanceMethod yX10_due ∈ GW ∧ .selects yX10_due.cls yX10_due yX10_due ∈ GW ∧ .initialized yX10_due.cls ∈ GW ∧ .code yX10_due cX10_due 3 (some .long) ∈ GW ∧ (yX10_due.cls ≠ "java/lang/invoke/MethodHandle" ∧ yX10_due.cls ≠ "java/lang/invoke/VarHandle") ∧ (parseMethodDescriptor yX10_due.desc).map (fun d => d.parameters.length) = some 2 := ⟨gw_t4 237 (by decide +kernel) (by decide +kernel), gw_t4 238 (by decide +kernel) (by decide +kernel), gw_t1 1 (by decide +kernel) (by decide +kernel), gw_t4 239 (by decide +kernel) (by decide +kernel), ⟨by decide +kernel, by decide +kernel⟩, by decide +kernel⟩
theorem lkl_144 : LkV RL 144 yX10_due cX10_due 3 (some .long) 2 := ⟨gw_t4 236 (by decide +kernel) (by decide +kernel), mk_X10_due⟩
theorem mk_X11_due : .instanceMethod yX11_due ∈ GW ∧ .selects yX11_due.cls yX11_due yX11_due ∈ GW ∧ .initialized yX11_due.cls ∈ GW ∧ .code yX11_due cX11_due 3 (some .long) ∈ GW ∧ (yX11_due.cls ≠ "java/lang/invoke/MethodHandle" ∧ yX11_due.cls ≠ "java/lang/invoke/VarHandle") ∧ (parseMethodDescriptor yX11_due.desc).map (fun d => d.parameters.length) = some 2 := ⟨gw_t8 5 (by decide +kernel) (by decide +kernel), gw_t8 6 (by decide +kernel) (by decide +kernel), gw_t1 11 (by decide +kernel) (by decide +kernel), gw_t8 7 (by decide +kernel) (by decide +kernel), ⟨by decide +kernel, by decide +kernel⟩, by decide +kernel⟩
theorem lkl_147 : LkV RL 147 yX11_due cX11_due 3 (some .long) 2 := ⟨gw_t8 4 (by decide +kernel) (by decide +kernel), mk_X11_due⟩
theorem mk_X10_table : .instanceMethod yX10_table ∈ GW ∧ .selects yX10_table.cls yX10_table yX10_table ∈ GW ∧ .initialized yX10_table.cls ∈ GW ∧ .code yX10_table cX10_table 4 (some .int) ∈ GW ∧ (yX10_table.cls ≠ "java/lang/invoke/MethodHandle" ∧ yX10_table.cls ≠ "java/lang/invoke/VarHandle") ∧ (parseMethodDescriptor yX10_table.desc).map (fun d => d.parameters.length) = some 2 := ⟨gw_t5 2 (by decide +kernel) (by decide +kernel), gw_t5 3 (by decide +kernel) (by decide +kernel), gw_t1 1 (by decide +kernel) (by decide +kernel), gw_t5 4 (by decide +kernel) (by decide +kernel), ⟨by decide +kernel, by decide +kernel⟩, by decide +kernel⟩
theorem lkl_148 : LkV RL 148 yX10_table cX10_table 4 (some .int) 2 := ⟨gw_t5 1 (by decide +kernel) (by decide +kernel), mk_X10_table⟩
theorem mk_X11_table : .instanceMethod yX11_table ∈ GW ∧ .selects yX11_table.cls yX11_table yX11_table ∈ GW ∧ .initialized yX11_table.cls ∈ GW ∧ .code yX11_table cX11_table 4 (some .int) ∈ GW ∧ (yX11_table.cls ≠ "java/lang/invoke/MethodHandle" ∧ yX11_table.cls ≠ "java/lang/invoke/VarHandle") ∧ (parseMethodDescriptor yX11_table.desc).map (fun d => d.parameters.length) = some 2 := ⟨gw_t8 9 (by decide +kernel) (by decide +kernel), gw_t8 10 (by decide +kernel) (by decide +kernel), gw_t1 11 (by decide +kernel) (by decide +kernel), gw_t8 11 (by decide +kernel) (by decide +kernel), ⟨by decide +kernel, by decide +kernel⟩, by decide +kernel⟩
theorem lkl_151 : LkV RL 151 yX11_table cX11_table 4 (some .int) 2 := ⟨gw_t8 8 (by decide +kernel) (by decide +kernel), mk_X11_table⟩
theorem mk_X10_own : .instanceMethod yX10_own ∈ GW ∧ .selects yX10_own.cls yX10_own yX10_own ∈ GW ∧ .initialized yX10_own.cls ∈ GW ∧ .code yX10_own cX10_own 6 (some .int) ∈ GW ∧ (yX10_own.cls ≠ "java/lang/invoke/MethodHandle" ∧ yX10_own.cls ≠ "java/lang/invoke/VarHandle") ∧ (parseMethodDescriptor yX10_own.desc).map (fun d => d.parameters.length) = some 4 := ⟨gw_t5 6 (by decide +kernel) (by decide +kernel), gw_t5 7 (by decide +kernel) (by decide +kernel), gw_t1 1 (by decide +kernel) (by decide +kernel), gw_t5 8 (by decide +kernel) (by decide +kernel), ⟨by decide +kernel, by decide +kernel⟩, by decide +kernel⟩
theorem lkl_152 : LkV RL 152 yX10_own cX10_own 6 (some .int) 4 := ⟨gw_t5 5 (by decide +kernel) (by decide +kernel), mk_X10_own⟩
theorem mk_X11_own : .instanceMethod yX11_own ∈ GW ∧ .selects yX11_own.cls yX11_own yX11_own ∈ GW ∧ .initialized yX11_own.cls ∈ GW ∧ .code yX11_own cX11_own 10 (some .int) ∈ GW ∧ (yX11_own.cls ≠ "java/lang/invoke/MethodHandle" ∧ yX11_own.cls ≠ "java/lang/invoke/VarHandle") ∧ (parseMethodDescriptor yX11_own.desc).map (fun d => d.parameters.length) = some 4 := ⟨gw_t8 13 (by decide +kernel) (by decide +kernel), gw_t8 14 (by decide +kernel) (by decide +kernel), gw_t1 11 (by decide +kernel) (by decide +kernel), gw_t8 15 (by decide +kernel) (by decide +kernel), ⟨by decide +kernel, by decide +kernel⟩, by decide +kernel⟩
theorem lkl_155 : LkV RL 155 yX11_own cX11_own 10 (some .int) 4 := ⟨gw_t8 12 (by decide +kernel) (by decide +kernel), mk_X11_own⟩
theorem mk_X10_alive : .instanceMethod yX10_alive ∈ GW ∧ .selects yX10_alive.cls yX10_alive yX10_alive ∈ GW ∧ .initialized yX10_alive.cls ∈ GW ∧ .code yX10_alive cX10_alive 3 (some .int) ∈ GW ∧ (yX10_alive.cls ≠ "java/lang/invoke/MethodHandle" ∧ yX10_alive.cls ≠ "java/lang/invoke/VarHandle") ∧ (parseMethodDescriptor yX10_alive.desc).map (fun d => d.parameters.length) = some 2 := ⟨gw_t5 22 (by decide +kernel) (by decide +kernel), gw_t5 23 (by decide +kernel) (by decide +kernel), gw_t1 1 (by decide +kernel) (by decide +kernel), gw_t5 24 (by decide +kernel) (by decide +kernel), ⟨by decide +kernel, by decide +kernel⟩, by decide +kernel⟩
theorem lkl_156 : LkV RL 156 yX10_alive cX10_alive 3 (some .int) 2 := ⟨gw_t5 21 (by decide +kernel) (by decide +kernel), mk_X10_alive⟩
theorem mk_X11_alive : .instanceMethod yX11_alive ∈ GW ∧ .selects yX11_alive.cls yX11_alive yX11_alive ∈ GW ∧ .initialized yX11_alive.cls ∈ GW ∧ .code yX11_alive cX11_alive 3 (some .int) ∈ GW ∧ (yX11_alive.cls ≠ "java/lang/invoke/MethodHandle" ∧ yX11_alive.cls ≠ "java/lang/invoke/VarHandle") ∧ (parseMethodDescriptor yX11_alive.desc).map (fun d => d.parameters.length) = some 2 := ⟨gw_t8 17 (by decide +kernel) (by decide +kernel), gw_t8 18 (by decide +kernel) (by decide +kernel), gw_t1 11 (by decide +kernel) (by decide +kernel), gw_t8 19 (by decide +kernel) (by decide +kernel), ⟨by decide +kernel, by decide +kernel⟩, by decide +kernel⟩
theorem lkl_159 : LkV RL 159 yX11_alive cX11_alive 3 (some .int) 2 := ⟨gw_t8 16 (by decide +kernel) (by decide +kernel), mk_X11_alive⟩
theorem mk_X10_expect : .instanceMethod yX10_expect ∈ GW ∧ .selects yX10_expect.cls yX10_expect yX10_expect ∈ GW ∧ .initialized yX10_expect.cls ∈ GW ∧ .code yX10_expect cX10_expect 2 (some .int) ∈ GW ∧ (yX10_expect.cls ≠ "java/lang/invoke/MethodHandle" ∧ yX10_expect.cls ≠ "java/lang/invoke/VarHandle") ∧ (parseMethodDescriptor yX10_expect.desc).map (fun d => d.parameters.length) = some 1 := ⟨gw_t5 36 (by decide +kernel) (by decide +kernel), gw_t5 37 (by decide +kernel) (by decide +kernel), gw_t1 1 (by decide +kernel) (by decide +kernel), gw_t5 38 (by decide +kernel) (by decide +kernel), ⟨by decide +kernel, by decide +kernel⟩, by decide +kernel⟩
theorem lkl_160 : LkV RL 160 yX10_expect cX10_expect 2 (some .int) 1 := ⟨gw_t5 35 (by decide +kernel) (by decide +kernel), mk_X10_expect⟩
theorem mk_X11_expect : .instanceMethod yX11_expect ∈ GW ∧ .selects yX11_expect.cls yX11_expect yX11_expect ∈ GW ∧ .initialized yX11_expect.cls ∈ GW ∧ .code yX11_expect cX11_expect 4 (some .int) ∈ GW ∧ (yX11_expect.cls ≠ "java/lang/invoke/MethodHandle" ∧ yX11_expect.cls ≠ "java/lang/invoke/VarHandle") ∧ (parseMethodDescriptor yX11_expect.desc).map (fun d => d.parameters.length) = some 1 := ⟨gw_t8 27 (by decide +kernel) (by decide +kernel), gw_t8 28 (by decide +kernel) (by decide +kernel), gw_t1 11 (by decide +kernel) (by decide +kernel), gw_t8 29 (by decide +kernel) (by decide +kernel), ⟨by decide +kernel, by decide +kernel⟩, by decide +kernel⟩
theorem lkl_163 : LkV RL 163 yX11_expect cX11_expect 4 (some .int) 1 := ⟨gw_t8 26 (by decide +kernel) (by decide +kernel), mk_X11_expect⟩
theorem mk_X10_interest : .instanceMethod yX10_interest ∈ GW ∧ .selects yX10_interest.cls yX10_interest yX10_interest ∈ GW ∧ .initialized yX10_interest.cls ∈ GW ∧ .code yX10_interest cX10_interest 3 (some .int) ∈ GW ∧ (yX10_interest.cls ≠ "java/lang/invoke/MethodHandle" ∧ yX10_interest.cls ≠ "java/lang/invoke/VarHandle") ∧ (parseMethodDescriptor yX10_interest.desc).map (fun d => d.parameters.length) = some 1 := ⟨gw_t5 44 (by decide +kernel) (by decide +kernel), gw_t5 45 (by decide +kernel) (by decide +kernel), gw_t1 1 (by decide +kernel) (by decide +kernel), gw_t5 46 (by decide +kernel) (by decide +kernel), ⟨by decide +kernel, by decide +kernel⟩, by decide +kernel⟩
theorem lkl_164 : LkV RL 164 yX10_interest cX10_interest 3 (some .int) 1 := ⟨gw_t5 43 (by decide +kernel) (by decide +kernel), mk_X10_interest⟩
theorem mk_X11_interest : .instanceMethod yX11_interest ∈ GW ∧ .selects yX11_interest.cls yX11_interest yX11_interest ∈ GW ∧ .initialized yX11_interest.cls ∈ GW ∧ .code yX11_interest cX11_interest 3 (some .int) ∈ GW ∧ (yX11_interest.cls ≠ "java/lang/invoke/MethodHandle" ∧ yX11_interest.cls ≠ "java/lang/invoke/VarHandle") ∧ (parseMethodDescriptor yX11_interest.desc).map (fun d => d.parameters.length) = some 1 := ⟨gw_t8 31 (by decide +kernel) (by decide +kernel), gw_t8 32 (by decide +kernel) (by decide +kernel), gw_t1 11 (by decide +kernel) (by decide +kernel), gw_t8 33 (by decide +kernel) (by decide +kernel), ⟨by decide +kernel, by decide +kernel⟩, by decide +kernel⟩
theorem lkl_167 : LkV RL 167 yX11_interest cX11_interest 3 (some .int) 1 := ⟨gw_t8 30 (by decide +kernel) (by decide +kernel), mk_X11_interest⟩
theorem mk_X10_worth : .instanceMethod yX10_worth ∈ GW ∧ .selects yX10_worth.cls yX10_worth yX10_worth ∈ GW ∧ .initialized yX10_worth.cls ∈ GW ∧ .code yX10_worth cX10_worth 3 (some .long) ∈ GW ∧ (yX10_worth.cls ≠ "java/lang/invoke/MethodHandle" ∧ yX10_worth.cls ≠ "java/lang/invoke/VarHandle") ∧ (parseMethodDescriptor yX10_worth.desc).map (fun d => d.parameters.length) = some 2 := ⟨gw_t5 48 (by decide +kernel) (by decide +kernel), gw_t5 49 (by decide +kernel) (by decide +kernel), gw_t1 1 (by decide +kernel) (by decide +kernel), gw_t5 50 (by decide +kernel) (by decide +kernel), ⟨by decide +kernel, by decide +kernel⟩, by decide +kernel⟩
theorem lkl_168 : LkV RL 168 yX10_worth cX10_worth 3 (some .long) 2 := ⟨gw_t5 47 (by decide +kernel) (by decide +kernel), mk_X10_worth⟩
theorem mk_X11_worth : .instanceMethod yX11_worth ∈ GW ∧ .selects yX11_worth.cls yX11_worth yX11_worth ∈ GW ∧ .initialized yX11_worth.cls ∈ GW ∧ .code yX11_worth cX11_worth 3 (some .long) ∈ GW ∧ (yX11_worth.cls ≠ "java/lang/invoke/MethodHandle" ∧ yX11_worth.cls ≠ "java/lang/invoke/VarHandle") ∧ (parseMethodDescriptor yX11_worth.desc).map (fun d => d.parameters.length) = some 2 := ⟨gw_t8 35 (by decide +kernel) (by decide +kernel), gw_t8 36 (by decide +kernel) (by decide +kernel), gw_t1 11 (by decide +kernel) (by decide +kernel), gw_t8 37 (by decide +kernel) (by decide +kernel), ⟨by decide +kernel, by decide +kernel⟩, by decide +kernel⟩
theorem lkl_171 : LkV RL 171 yX11_worth cX11_worth 3 (some .long) 2 := ⟨gw_t8 34 (by decide +kernel) (by decide +kernel), mk_X11_worth⟩
theorem mk_X10_value : .instanceMethod yX10_value ∈ GW ∧ .selects yX10_value.cls yX10_value yX10_value ∈ GW ∧ .initialized yX10_value.cls ∈ GW ∧ .code yX10_value cX10_value 3 (some .long) ∈ GW ∧ (yX10_value.cls ≠ "java/lang/invoke/MethodHandle" ∧ yX10_value.cls ≠ "java/lang/invoke/VarHandle") ∧ (parseMethodDescriptor yX10_value.desc).map (fun d => d.parameters.length) = some 2 := ⟨gw_t5 59 (by decide +kernel) (by decide +kernel), gw_t5 60 (by decide +kernel) (by decide +kernel), gw_t1 1 (by decide +kernel) (by decide +kernel), gw_t5 61 (by decide +kernel) (by decide +kernel), ⟨by decide +kernel, by decide +kernel⟩, by decide +kernel⟩
theorem lkl_172 : LkV RL 172 yX10_value cX10_value 3 (some .long) 2 := ⟨gw_t5 58 (by decide +kernel) (by decide +kernel), mk_X10_value⟩
theorem mk_X11_value : .instanceMethod yX11_value ∈ GW ∧ .selects yX11_value.cls yX11_value yX11_value ∈ GW ∧ .initialized yX11_value.cls ∈ GW ∧ .code yX11_value cX11_value 10 (some .long) ∈ GW ∧ (yX11_value.cls ≠ "java/lang/invoke/MethodHandle" ∧ yX11_value.cls ≠ "java/lang/invoke/VarHandle") ∧ (parseMethodDescriptor yX11_value.desc).map (fun d => d.parameters.length) = some 2 := ⟨gw_t8 44 (by decide +kernel) (by decide +kernel), gw_t8 45 (by decide +kernel) (by decide +kernel), gw_t1 11 (by decide +kernel) (by decide +kernel), gw_t8 46 (by decide +kernel) (by decide +kernel), ⟨by decide +kernel, by decide +kernel⟩, by decide +kernel⟩
theorem lkl_175 : LkV RL 175 yX11_value cX11_value 10 (some .long) 2 := ⟨gw_t8 43 (by decide +kernel) (by decide +kernel), mk_X11_value⟩
theorem mk_X10_row : .instanceMethod yX10_row ∈ GW ∧ .selects yX10_row.cls yX10_row yX10_row ∈ GW ∧ .initialized yX10_row.cls ∈ GW ∧ .code yX10_row cX10_row 1 (some .int) ∈ GW ∧ (yX10_row.cls ≠ "java/lang/invoke/MethodHandle" ∧ yX10_row.cls ≠ "java/lang/invoke/VarHandle") ∧ (parseMethodDescriptor yX10_row.desc).map (fun d => d.parameters.length) = some 0 := ⟨gw_t5 72 (by decide +kernel) (by decide +kernel), gw_t5 73 (by decide +kernel) (by decide +kernel), gw_t1 1 (by decide +kernel) (by decide +kernel), gw_t5 74 (by decide +kernel) (by decide +kernel), ⟨by decide +kernel, by decide +kernel⟩, by decide +kernel⟩
theorem lkl_176 : LkV RL 176 yX10_row cX10_row 1 (some .int) 0 := ⟨gw_t5 71 (by decide +kernel) (by decide +kernel), mk_X10_row⟩
theorem mk_X11_row : .instanceMethod yX11_row ∈ GW ∧ .selects yX11_row.cls yX11_row yX11_row ∈ GW ∧ .initialized yX11_row.cls ∈ GW ∧ .code yX11_row cX11_row 1 (some .int) ∈ GW ∧ (yX11_row.cls ≠ "java/lang/invoke/MethodHandle" ∧ yX11_row.cls ≠ "java/lang/invoke/VarHandle") ∧ (parseMethodDescriptor yX11_row.desc).map (fun d => d.parameters.length) = some 0 := ⟨gw_t8 48 (by decide +kernel) (by decide +kernel), gw_t8 49 (by decide +kernel) (by decide +kernel), gw_t1 11 (by decide +kernel) (by decide +kernel), gw_t8 50 (by decide +kernel) (by decide +kernel), ⟨by decide +kernel, by decide +kernel⟩, by decide +kernel⟩
theorem lkl_180 : LkV RL 180 yX11_row cX11_row 1 (some .int) 0 := ⟨gw_t8 47 (by decide +kernel) (by decide +kernel), mk_X11_row⟩
theorem mk_X10_rows : .instanceMethod yX10_rows ∈ GW ∧ .selects yX10_rows.cls yX10_rows yX10_rows ∈ GW ∧ .initialized yX10_rows.cls ∈ GW ∧ .code yX10_rows cX10_rows 4 (some .int) ∈ GW ∧ (yX10_rows.cls ≠ "java/lang/invoke/MethodHandle" ∧ yX10_rows.cls ≠ "java/lang/invoke/VarHandle") ∧ (parseMethodDescriptor yX10_rows.desc).map (fun d => d.parameters.length) = some 3 := ⟨gw_t5 76 (by decide +kernel) (by decide +kernel), gw_t5 77 (by decide +kernel) (by decide +kernel), gw_t1 1 (by decide +kernel) (by decide +kernel), gw_t5 78 (by decide +kernel) (by decide +kernel), ⟨by decide +kernel, by decide +kernel⟩, by decide +kernel⟩
theorem lkl_181 : LkV RL 181 yX10_rows cX10_rows 4 (some .int) 3 := ⟨gw_t5 75 (by decide +kernel) (by decide +kernel), mk_X10_rows⟩
theorem mk_X11_rows : .instanceMethod yX11_rows ∈ GW ∧ .selects yX11_rows.cls yX11_rows yX11_rows ∈ GW ∧ .initialized yX11_rows.cls ∈ GW ∧ .code yX11_rows cX11_rows 4 (some .int) ∈ GW ∧ (yX11_rows.cls ≠ "java/lang/invoke/MethodHandle" ∧ yX11_rows.cls ≠ "java/lang/invoke/VarHandle") ∧ (parseMethodDescriptor yX11_rows.desc).map (fun d => d.parameters.length) = some 3 := ⟨gw_t8 52 (by decide +kernel) (by decide +kernel), gw_t8 53 (by decide +kernel) (by decide +kernel), gw_t1 11 (by decide +kernel) (by decide +kernel), gw_t8 54 (by decide +kernel) (by decide +kernel), ⟨by decide +kernel, by decide +kernel⟩, by decide +kernel⟩
theorem lkl_184 : LkV RL 184 yX11_rows cX11_rows 4 (some .int) 3 := ⟨gw_t8 51 (by decide +kernel) (by decide +kernel), mk_X11_rows⟩
theorem mk_X10_shortBy : .instanceMethod yX10_shortBy ∈ GW ∧ .selects yX10_shortBy.cls yX10_shortBy yX10_shortBy ∈ GW ∧ .initialized yX10_shortBy.cls ∈ GW ∧ .code yX10_shortBy cX10_shortBy 6 (some .int) ∈ GW ∧ (yX10_shortBy.cls ≠ "java/lang/invoke/MethodHandle" ∧ yX10_shortBy.cls ≠ "java/lang/invoke/VarHandle") ∧ (parseMethodDescriptor yX10_shortBy.desc).map (fun d => d.parameters.length) = some 3 := ⟨gw_t5 84 (by decide +kernel) (by decide +kernel), gw_t5 85 (by decide +kernel) (by decide +kernel), gw_t1 1 (by decide +kernel) (by decide +kernel), gw_t5 86 (by decide +kernel) (by decide +kernel), ⟨by decide +kernel, by decide +kernel⟩, by decide +kernel⟩
theorem lkl_185 : LkV RL 185 yX10_shortBy cX10_shortBy 6 (some .int) 3 := ⟨gw_t5 83 (by decide +kernel) (by decide +kernel), mk_X10_shortBy⟩
theorem mk_X11_shortBy : .instanceMethod yX11_shortBy ∈ GW ∧ .selects yX11_shortBy.cls yX11_shortBy yX11_shortBy ∈ GW ∧ .initialized yX11_shortBy.cls ∈ GW ∧ .code yX11_shortBy cX11_shortBy 4 (some .int) ∈ GW ∧ (yX11_shortBy.cls ≠ "java/lang/invoke/MethodHandle" ∧ yX11_shortBy.cls ≠ "java/lang/invoke/VarHandle") ∧ (parseMethodDescriptor yX11_shortBy.desc).map (fun d => d.parameters.length) = some 3 := ⟨gw_t8 56 (by decide +kernel) (by decide +kernel), gw_t8 57 (by decide +kernel) (by decide +kernel), gw_t1 11 (by decide +kernel) (by decide +kernel), gw_t8 58 (by decide +kernel) (by decide +kernel), ⟨by decide +kernel, by decide +kernel⟩, by decide +kernel⟩
theorem lkl_188 : LkV RL 188 yX11_shortBy cX11_shortBy 4 (some .int) 3 := ⟨gw_t8 55 (by decide +kernel) (by decide +kernel), mk_X11_shortBy⟩
theorem mk_X10_step : .instanceMethod yX10_step ∈ GW ∧ .selects yX10_step.cls yX10_step yX10_step ∈ GW ∧ .initialized yX10_step.cls ∈ GW ∧ .code yX10_step cX10_step 3 (some .int) ∈ GW ∧ (yX10_step.cls ≠ "java/lang/invoke/MethodHandle" ∧ yX10_step.cls ≠ "java/lang/invoke/VarHandle") ∧ (parseMethodDescriptor yX10_step.desc).map (fun d => d.parameters.length) = some 2 := ⟨gw_t5 101 (by decide +kernel) (by decide +kernel), gw_t5 102 (by decide +kernel) (by decide +kernel), gw_t1 1 (by decide +kernel) (by decide +kernel), gw_t5 103 (by decide +kernel) (by decide +kernel), ⟨by decide +kernel, by decide +kernel⟩, by decide +kernel⟩
theorem lkl_189 : LkV RL 189 yX10_step cX10_step 3 (some .int) 2 := ⟨gw_t5 100 (by decide +kernel) (by decide +kernel), mk_X10_step⟩
theorem mk_X11_step : .instanceMethod yX11_step ∈ GW ∧ .selects yX11_step.cls yX11_step yX11_step ∈ GW ∧ .initialized yX11_step.cls ∈ GW ∧ .code yX11_step cX11_step 3 (some .int) ∈ GW ∧ (yX11_step.cls ≠ "java/lang/invoke/MethodHandle" ∧ yX11_step.cls ≠ "java/lang/invoke/VarHandle") ∧ (parseMethodDescriptor yX11_step.desc).map (fun d => d.parameters.length) = some 2 := ⟨gw_t8 68 (by decide +kernel) (by decide +kernel), gw_t8 69 (by decide +kernel) (by decide +kernel), gw_t1 11 (by decide +kernel) (by decide +kernel), gw_t8 70 (by decide +kernel) (by decide +kernel), ⟨by decide +kernel, by decide +kernel⟩, by decide +kernel⟩
theorem lkl_192 : LkV RL 192 yX11_step cX11_step 3 (some .int) 2 := ⟨gw_t8 67 (by decide +kernel) (by decide +kernel), mk_X11_step⟩
theorem mk_X10_plan : .instanceMethod yX10_plan ∈ GW ∧ .selects yX10_plan.cls yX10_plan yX10_plan ∈ GW ∧ .initialized yX10_plan.cls ∈ GW ∧ .code yX10_plan cX10_plan 11 (some .int) ∈ GW ∧ (yX10_plan.cls ≠ "java/lang/invoke/MethodHandle" ∧ yX10_plan.cls ≠ "java/lang/invoke/VarHandle") ∧ (parseMethodDescriptor yX10_plan.desc).map (fun d => d.parameters.length) = some 3 := ⟨gw_t5 109 (by decide +kernel) (by decide +kernel), gw_t5 110 (by decide +kernel) (by decide +kernel), gw_t1 1 (by decide +kernel) (by decide +kernel), gw_t5 111 (by decide +kernel) (by decide +kernel), ⟨by decide +kernel, by decide +kernel⟩, by decide +kernel⟩
theorem lkl_193 : LkV RL 193 yX10_plan cX10_plan 11 (some .int) 3 := ⟨gw_t5 108 (by decide +kernel) (by decide +kernel), mk_X10_plan⟩
theorem mk_X11_plan : .instanceMethod yX11_plan ∈ GW ∧ .selects yX11_plan.cls yX11_plan yX11_plan ∈ GW ∧ .initialized yX11_plan.cls ∈ GW ∧ .code yX11_plan cX11_plan 11 (some .int) ∈ GW ∧ (yX11_plan.cls ≠ "java/lang/invoke/MethodHandle" ∧ yX11_plan.cls ≠ "java/lang/invoke/VarHandle") ∧ (parseMethodDescriptor yX11_plan.desc).map (fun d => d.parameters.length) = some 3 := ⟨gw_t8 72 (by decide +kernel) (by decide +kernel), gw_t8 73 (by decide +kernel) (by decide +kernel), gw_t1 11 (by decide +kernel) (by decide +kernel), gw_t8 74 (by decide +kernel) (by decide +kernel), ⟨by decide +kernel, by decide +kernel⟩, by decide +kernel⟩
theorem lkl_196 : LkV RL 196 yX11_plan cX11_plan 11 (some .int) 3 := ⟨gw_t8 71 (by decide +kernel) (by decide +kernel), mk_X11_plan⟩
theorem mk_X10_tried : .instanceMethod yX10_tried ∈ GW ∧ .selects yX10_tried.cls yX10_tried yX10_tried ∈ GW ∧ .initialized yX10_tried.cls ∈ GW ∧ .code yX10_tried cX10_tried 7 (some .long) ∈ GW ∧ (yX10_tried.cls ≠ "java/lang/invoke/MethodHandle" ∧ yX10_tried.cls ≠ "java/lang/invoke/VarHandle") ∧ (parseMethodDescriptor yX10_tried.desc).map (fun d => d.parameters.length) = some 2 := ⟨gw_t5 129 (by decide +kernel) (by decide +kernel), gw_t5 130 (by decide +kernel) (by decide +kernel), gw_t1 1 (by decide +kernel) (by decide +kernel), gw_t5 131 (by decide +kernel) (by decide +kernel), ⟨by decide +kernel, by decide +kernel⟩, by decide +kernel⟩
theorem lkl_197 : LkV RL 197 yX10_tried cX10_tried 7 (some .long) 2 := ⟨gw_t5 128 (by decide +kernel) (by decide +kernel), mk_X10_tried⟩
theorem mk_X11_tried : .instanceMethod yX11_tried ∈ GW ∧ .selects yX11_tried.cls yX11_tried yX11_tried ∈ GW ∧ .initialized yX11_tried.cls ∈ GW ∧ .code yX11_tried cX11_tried 6 (some .long) ∈ GW ∧ (yX11_tried.cls ≠ "java/lang/invoke/MethodHandle" ∧ yX11_tried.cls ≠ "java/lang/invoke/VarHandle") ∧ (parseMethodDescriptor yX11_tried.desc).map (fun d => d.parameters.length) = some 2 := ⟨gw_t8 91 (by decide +kernel) (by decide +kernel), gw_t8 92 (by decide +kernel) (by decide +kernel), gw_t1 11 (by decide +kernel) (by decide +kernel), gw_t8 93 (by decide +kernel) (by decide +kernel), ⟨by decide +kernel, by decide +kernel⟩, by decide +kernel⟩
theorem lkl_200 : LkV RL 200 yX11_tried cX11_tried 6 (some .long) 2 := ⟨gw_t8 90 (by decide +kernel) (by decide +kernel), mk_X11_tried⟩
theorem mk_X10_told : .instanceMethod yX10_told ∈ GW ∧ .selects yX10_told.cls yX10_told yX10_told ∈ GW ∧ .initialized yX10_told.cls ∈ GW ∧ .code yX10_told cX10_told 6 (some .long) ∈ GW ∧ (yX10_told.cls ≠ "java/lang/invoke/MethodHandle" ∧ yX10_told.cls ≠ "java/lang/invoke/VarHandle") ∧ (parseMethodDescriptor yX10_told.desc).map (fun d => d.parameters.length) = some 3 := ⟨gw_t5 138 (by decide +kernel) (by decide +kernel), gw_t5 139 (by decide +kernel) (by decide +kernel), gw_t1 1 (by decide +kernel) (by decide +kernel), gw_t5 140 (by decide +kernel) (by decide +kernel), ⟨by decide +kernel, by decide +kernel⟩, by decide +kernel⟩
theorem lkl_201 : LkV RL 201 yX10_told cX10_told 6 (some .long) 3 := ⟨gw_t5 137 (by decide +kernel) (by decide +kernel), mk_X10_told⟩
theorem mk_X11_told : .instanceMethod yX11_told ∈ GW ∧ .selects yX11_told.cls yX11_told yX11_told ∈ GW ∧ .initialized yX11_told.cls ∈ GW ∧ .code yX11_told cX11_told 9 (some .long) ∈ GW ∧ (yX11_told.cls ≠ "java/lang/invoke/MethodHandle" ∧ yX11_told.cls ≠ "java/lang/invoke/VarHandle") ∧ (parseMethodDescriptor yX11_told.desc).map (fun d => d.parameters.length) = some 3 := ⟨gw_t8 96 (by decide +kernel) (by decide +kernel), gw_t8 97 (by decide +kernel) (by decide +kernel), gw_t1 11 (by decide +kernel) (by decide +kernel), gw_t8 98 (by decide +kernel) (by decide +kernel), ⟨by decide +kernel, by decide +kernel⟩, by decide +kernel⟩
theorem lkl_205 : LkV RL 205 yX11_told cX11_told 9 (some .long) 3 := ⟨gw_t8 95 (by decide +kernel) (by decide +kernel), mk_X11_told⟩
theorem mk_X10_check : .instanceMethod yX10_check ∈ GW ∧ .selects yX10_check.cls yX10_check yX10_check ∈ GW ∧ .initialized yX10_check.cls ∈ GW ∧ .code yX10_check cX10_check 4 (some .int) ∈ GW ∧ (yX10_check.cls ≠ "java/lang/invoke/MethodHandle" ∧ yX10_check.cls ≠ "java/lang/invoke/VarHandle") ∧ (parseMethodDescriptor yX10_check.desc).map (fun d => d.parameters.length) = some 2 := ⟨gw_t5 149 (by decide +kernel) (by decide +kernel), gw_t5 150 (by decide +kernel) (by decide +kernel), gw_t1 1 (by decide +kernel) (by decide +kernel), gw_t5 151 (by decide +kernel) (by decide +kernel), ⟨by decide +kernel, by decide +kernel⟩, by decide +kernel⟩
theorem lkl_206 : LkV RL 206 yX10_check cX10_check 4 (some .int) 2 := ⟨gw_t5 148 (by decide +kernel) (by decide +kernel), mk_X10_check⟩
theorem mk_X11_check : .instanceMethod yX11_check ∈ GW ∧ .selects yX11_check.cls yX11_check yX11_check ∈ GW ∧ .initialized yX11_check.cls ∈ GW ∧ .code yX11_check cX11_check 4 (some .int) ∈ GW ∧ (yX11_check.cls ≠ "java/lang/invoke/MethodHandle" ∧ yX11_check.cls ≠ "java/lang/invoke/VarHandle") ∧ (parseMethodDescriptor yX11_check.desc).map (fun d => d.parameters.length) = some 2 := ⟨gw_t8 102 (by decide +kernel) (by decide +kernel), gw_t8 103 (by decide +kernel) (by decide +kernel), gw_t1 11 (by decide +kernel) (by decide +kernel), gw_t8 104 (by decide +kernel) (by decide +kernel), ⟨by decide +kernel, by decide +kernel⟩, by decide +kernel⟩
theorem lkl_209 : LkV RL 209 yX11_check cX11_check 4 (some .int) 2 := ⟨gw_t8 101 (by decide +kernel) (by decide +kernel), mk_X11_check⟩
theorem mk_X10_judge : .instanceMethod yX10_judge ∈ GW ∧ .selects yX10_judge.cls yX10_judge yX10_judge ∈ GW ∧ .initialized yX10_judge.cls ∈ GW ∧ .code yX10_judge cX10_judge 7 (some .int) ∈ GW ∧ (yX10_judge.cls ≠ "java/lang/invoke/MethodHandle" ∧ yX10_judge.cls ≠ "java/lang/invoke/VarHandle") ∧ (parseMethodDescriptor yX10_judge.desc).map (fun d => d.parameters.length) = some 2 := ⟨gw_t5 158 (by decide +kernel) (by decide +kernel), gw_t5 159 (by decide +kernel) (by decide +kernel), gw_t1 1 (by decide +kernel) (by decide +kernel), gw_t5 160 (by decide +kernel) (by decide +kernel), ⟨by decide +kernel, by decide +kernel⟩, by decide +kernel⟩
theorem lkl_210 : LkV RL 210 yX10_judge cX10_judge 7 (some .int) 2 := ⟨gw_t5 157 (by decide +kernel) (by decide +kernel), mk_X10_judge⟩
theorem mk_X11_judge : .instanceMethod yX11_judge ∈ GW ∧ .selects yX11_judge.cls yX11_judge yX11_judge ∈ GW ∧ .initialized yX11_judge.cls ∈ GW ∧ .code yX11_judge cX11_judge 7 (some .int) ∈ GW ∧ (yX11_judge.cls ≠ "java/lang/invoke/MethodHandle" ∧ yX11_judge.cls ≠ "java/lang/invoke/VarHandle") ∧ (parseMethodDescriptor yX11_judge.desc).map (fun d => d.parameters.length) = some 2 := ⟨gw_t8 110 (by decide +kernel) (by decide +kernel), gw_t8 111 (by decide +kernel) (by decide +kernel), gw_t1 11 (by decide +kernel) (by decide +kernel), gw_t8 112 (by decide +kernel) (by decide +kernel), ⟨by decide +kernel, by decide +kernel⟩, by decide +kernel⟩
theorem lkl_213 : LkV RL 213 yX11_judge cX11_judge 7 (some .int) 2 := ⟨gw_t8 109 (by decide +kernel) (by decide +kernel), mk_X11_judge⟩
theorem mk_X10_count : .instanceMethod yX10_count ∈ GW ∧ .selects yX10_count.cls yX10_count yX10_count ∈ GW ∧ .initialized yX10_count.cls ∈ GW ∧ .code yX10_count cX10_count 2 (some .int) ∈ GW ∧ (yX10_count.cls ≠ "java/lang/invoke/MethodHandle" ∧ yX10_count.cls ≠ "java/lang/invoke/VarHandle") ∧ (parseMethodDescriptor yX10_count.desc).map (fun d => d.parameters.length) = some 1 := ⟨gw_t5 162 (by decide +kernel) (by decide +kernel), gw_t5 163 (by decide +kernel) (by decide +kernel), gw_t1 1 (by decide +kernel) (by decide +kernel), gw_t5 164 (by decide +kernel) (by decide +kernel), ⟨by decide +kernel, by decide +kernel⟩, by decide +kernel⟩
theorem lkl_214 : LkV RL 214 yX10_count cX10_count 2 (some .int) 1 := ⟨gw_t5 161 (by decide +kernel) (by decide +kernel), mk_X10_count⟩
theorem mk_X11_count : .instanceMethod yX11_count ∈ GW ∧ .selects yX11_count.cls yX11_count yX11_count ∈ GW ∧ .initialized yX11_count.cls ∈ GW ∧ .code yX11_count cX11_count 2 (some .int) ∈ GW ∧ (yX11_count.cls ≠ "java/lang/invoke/MethodHandle" ∧ yX11_count.cls ≠ "java/lang/invoke/VarHandle") ∧ (parseMethodDescriptor yX11_count.desc).map (fun d => d.parameters.length) = some 1 := ⟨gw_t8 114 (by decide +kernel) (by decide +kernel), gw_t8 115 (by decide +kernel) (by decide +kernel), gw_t1 11 (by decide +kernel) (by decide +kernel), gw_t8 116 (by decide +kernel) (by decide +kernel), ⟨by decide +kernel, by decide +kernel⟩, by decide +kernel⟩
theorem lkl_217 : LkV RL 217 yX11_count cX11_count 2 (some .int) 1 := ⟨gw_t8 113 (by decide +kernel) (by decide +kernel), mk_X11_count⟩
theorem kl_L_74 : Cond.constantLong RL 74 (4294967295 : Int64) ∈ GW := gw_t8 117 (by decide +kernel) (by decide +kernel)
theorem dL_law_240 : decode code 240 = .ok (.aload_n 1, 1) := by decide +kernel
theorem dL_law_241 : decode code 241 = .ok (.aload_n 0, 1) := by decide +kernel
theorem dL_law_242 : decode code 242 = .ok (.iload_n 3, 1) := by decide +kernel
theorem dL_law_243 : decode code 243 = .ok (.iconst 1, 1) := by decide +kernel
theorem dL_law_244 : decode code 244 = .ok (.iadd, 1) := by decide +kernel
theorem dL_law_245 : decode code 245 = .ok (.iaload, 1) := by decide +kernel
theorem dL_law_246 : decode code 246 = .ok (.invokevirtual 13, 3) := by decide +kernel
theorem dL_law_249 : decode code 249 = .ok (.aload_n 2, 1) := by decide +kernel
theorem dL_law_250 : decode code 250 = .ok (.aload_n 0, 1) := by decide +kernel
theorem dL_law_251 : decode code 251 = .ok (.iload_n 3, 1) := by decide +kernel
theorem dL_law_252 : decode code 252 = .ok (.iconst 1, 1) := by decide +kernel
theorem dL_law_253 : decode code 253 = .ok (.iadd, 1) := by decide +kernel
theorem dL_law_254 : decode code 254 = .ok (.iaload, 1) := by decide +kernel
theorem dL_law_255 : decode code 255 = .ok (.invokevirtual 17, 3) := by decide +kernel
theorem dL_law_258 : decode code 258 = .ok (.if_icmp .eq 1893, 3) := by decide +kernel
theorem dL_law_261 : decode code 261 = .ok (.iconst 0, 1) := by decide +kernel
theorem dL_law_262 : decode code 262 = .ok (.ireturn, 1) := by decide +kernel
set_option maxRecDepth 100000 in
theorem law_c0 {z : ZZ} {x : XX} {Q : State → Prop} {k n : Nat} {ad : Nat → Nat} {b L i x0 m0 : Nat} {xs : Nat → Int32} {σ σ1 : MS} {τ τ1 : XS} {r : Int32} (hC : CX z ad x code RL 4 ret) (hR : x.2.2.1 = room_1) (hX : SX z x b L xs) (hx0 : ad 36 = x0) (hm0 : ad 0 = m0) (hi : i + 4 < L) (hk : k + 0 ≤ 600000 ∧ n + 0 ≤ 7302250) (hW : W_seat τ (xs (i + 1)) = some (r, τ1)) (hM : M_seat σ (xs (i + 1)) = some (r, σ1)) (kk : ∀ ad2, exL ad ad2 → AL z x 4 Q (k + 0 + 0) (n + 0 + 0) 2151 [(3, .int (Int32.ofNat i)), (1, .ref x0), (2, .ref m0), (0, .ref b)] [] (wX z σ1 ad2 τ1)) : AL z x 4 Q k n 240 [(3, .int (Int32.ofNat i)), (1, .ref x0), (2, .ref m0), (0, .ref b)] [] (wX z σ ad τ) := by
  refine al_aload_n (j := 1) hC rfl rfl dL_law_240 ?_
  refine al_aload_n (j := 3) hC rfl rfl dL_law_241 ?_
  refine al_iload_n (j := 0) hC rfl rfl dL_law_242 ?_
  refine al_iconst (v := 1) hC rfl dL_law_243 ?_
  refine al_iadd hC dL_law_244 ?_
  refine al_sld (j := i + 1) hC hX (Int32.ofNat_add i 1).symm (by omega) dL_law_245 ?_
  refine al_callL (w := wX z σ) (As := [.int (xs (i + 1))]) (rest := []) (s0 := τ) (s1 := τ1) (r0 := r) (q := 36) hC hR lkl_13 (c_W_seat τ (xs (i + 1))) hW (fun _ _ h => eqA.L h) dL_law_246 recX10 rfl rfl hx0 rfl ⟨by decide, by decide⟩ (Nat.le_of_ble_eq_true rfl) ⟨by omega, by omega⟩ ⟨_, rfl, fun _ => rfl⟩ (fun ad1 hE1 hC => ?_)
  have hm0 := (hE1 0 (by omega)).trans hm0
  show AL z x 4 Q (k + 0) (n + 0) _ _ _ (wM z τ1 ad1 σ)
  refine al_aload_n (j := 2) hC rfl rfl dL_law_249 ?_
  refine al_aload_n (j := 3) hC rfl rfl dL_law_250 ?_
  refine al_iload_n (j := 0) hC rfl rfl dL_law_251 ?_
  refine al_iconst (v := 1) hC rfl dL_law_252 ?_
  refine al_iadd hC dL_law_253 ?_
  refine al_sld (j := i + 1) hC hX (Int32.ofNat_add i 1).symm (by omega) dL_law_254 ?_
  refine al_callL (w := wM z τ1) (As := [.int (xs (i + 1))]) (rest := [.int r]) (s0 := σ) (s1 := σ1) (r0 := r) (q := 0) hC hR lkl_17 (c_M_seat σ (xs (i + 1))) hM (fun _ _ h => eqA.L h) dL_law_255 recX11 rfl rfl hm0 rfl ⟨by decide, by decide⟩ (Nat.le_of_ble_eq_true rfl) ⟨by omega, by omega⟩ ⟨_, rfl, fun _ => rfl⟩ (fun ad2 hE2 hC => ?_)
  show AL z x 4 Q _ _ _ _ _ (wX z σ1 ad2 τ1)
  refine al_icmp_eq (tgt := 2151) hC dL_law_258 rfl (fun _ => ?_) (fun g => absurd rfl g)
  exact kk ad2 (hE1.trans hE2)
theorem dL_law_263 : decode code 263 = .ok (.aload_n 1, 1) := by decide +kernel
theorem dL_law_264 : decode code 264 = .ok (.aload_n 0, 1) := by decide +kernel
theorem dL_law_265 : decode code 265 = .ok (.iload_n 3, 1) := by decide +kernel
theorem dL_law_266 : decode code 266 = .ok (.iconst 1, 1) := by decide +kernel
theorem dL_law_267 : decode code 267 = .ok (.iadd, 1) := by decide +kernel
theorem dL_law_268 : decode code 268 = .ok (.iaload, 1) := by decide +kernel
theorem dL_law_269 : decode code 269 = .ok (.aload_n 0, 1) := by decide +kernel
theorem dL_law_270 : decode code 270 = .ok (.iload_n 3, 1) := by decide +kernel
theorem dL_law_271 : decode code 271 = .ok (.iconst 2, 1) := by decide +kernel
theorem dL_law_272 : decode code 272 = .ok (.iadd, 1) := by decide +kernel
theorem dL_law_273 : decode code 273 = .ok (.iaload, 1) := by decide +kernel
theorem dL_law_274 : decode code 274 = .ok (.aload_n 0, 1) := by decide +kernel
theorem dL_law_275 : decode code 275 = .ok (.iload_n 3, 1) := by decide +kernel
theorem dL_law_276 : decode code 276 = .ok (.iconst 3, 1) := by decide +kernel
theorem dL_law_277 : decode code 277 = .ok (.iadd, 1) := by decide +kernel
theorem dL_law_278 : decode code 278 = .ok (.iaload, 1) := by decide +kernel
theorem dL_law_279 : decode code 279 = .ok (.aload_n 0, 1) := by decide +kernel
theorem dL_law_280 : decode code 280 = .ok (.iload_n 3, 1) := by decide +kernel
theorem dL_law_281 : decode code 281 = .ok (.iconst 4, 1) := by decide +kernel
theorem dL_law_282 : decode code 282 = .ok (.iadd, 1) := by decide +kernel
theorem dL_law_283 : decode code 283 = .ok (.iaload, 1) := by decide +kernel
theorem dL_law_284 : decode code 284 = .ok (.invokevirtual 18, 3) := by decide +kernel
theorem dL_law_287 : decode code 287 = .ok (.aload_n 2, 1) := by decide +kernel
theorem dL_law_288 : decode code 288 = .ok (.aload_n 0, 1) := by decide +kernel
theorem dL_law_289 : decode code 289 = .ok (.iload_n 3, 1) := by decide +kernel
theorem dL_law_290 : decode code 290 = .ok (.iconst 1, 1) := by decide +kernel
theorem dL_law_291 : decode code 291 = .ok (.iadd, 1) := by decide +kernel
theorem dL_law_292 : decode code 292 = .ok (.iaload, 1) := by decide +kernel
theorem dL_law_293 : decode code 293 = .ok (.aload_n 0, 1) := by decide +kernel
theorem dL_law_294 : decode code 294 = .ok (.iload_n 3, 1) := by decide +kernel
theorem dL_law_295 : decode code 295 = .ok (.iconst 2, 1) := by decide +kernel
theorem dL_law_296 : decode code 296 = .ok (.iadd, 1) := by decide +kernel
theorem dL_law_297 : decode code 297 = .ok (.iaload, 1) := by decide +kernel
theorem dL_law_298 : decode code 298 = .ok (.aload_n 0, 1) := by decide +kernel
theorem dL_law_299 : decode code 299 = .ok (.iload_n 3, 1) := by decide +kernel
theorem dL_law_300 : decode code 300 = .ok (.iconst 3, 1) := by decide +kernel
theorem dL_law_301 : decode code 301 = .ok (.iadd, 1) := by decide +kernel
theorem dL_law_302 : decode code 302 = .ok (.iaload, 1) := by decide +kernel
theorem dL_law_303 : decode code 303 = .ok (.aload_n 0, 1) := by decide +kernel
theorem dL_law_304 : decode code 304 = .ok (.iload_n 3, 1) := by decide +kernel
theorem dL_law_305 : decode code 305 = .ok (.iconst 4, 1) := by decide +kernel
theorem dL_law_306 : decode code 306 = .ok (.iadd, 1) := by decide +kernel
theorem dL_law_307 : decode code 307 = .ok (.iaload, 1) := by decide +kernel
theorem dL_law_308 : decode code 308 = .ok (.invokevirtual 22, 3) := by decide +kernel
theorem dL_law_311 : decode code 311 = .ok (.if_icmp .eq 1840, 3) := by decide +kernel
theorem dL_law_314 : decode code 314 = .ok (.iconst 0, 1) := by decide +kernel
theorem dL_law_315 : decode code 315 = .ok (.ireturn, 1) := by decide +kernel
set_option maxRecDepth 100000 in
theorem law_c1 {z : ZZ} {x : XX} {Q : State → Prop} {k n : Nat} {ad : Nat → Nat} {b L i x0 m0 : Nat} {xs : Nat → Int32} {σ σ1 : MS} {τ τ1 : XS} {r : Int32} (hC : CX z ad x code RL 4 ret) (hR : x.2.2.1 = room_1) (hX : SX z x b L xs) (hx0 : ad 36 = x0) (hm0 : ad 0 = m0) (hi : i + 4 < L) (hk : k + 0 ≤ 600000 ∧ n + 0 ≤ 7302250) (hW : W_person τ (xs (i + 1)) (xs (i + 2)) (xs (i + 3)) (xs (i + 4)) = some (r, τ1)) (hM : M_person σ (xs (i + 1)) (xs (i + 2)) (xs (i + 3)) (xs (i + 4)) = some (r, σ1)) (kk : ∀ ad2, exL ad ad2 → AL z x 4 Q (k + 0 + 0) (n + 0 + 0) 2151 [(3, .int (Int32.ofNat i)), (1, .ref x0), (2, .ref m0), (0, .ref b)] [] (wX z σ1 ad2 τ1)) : AL z x 4 Q k n 263 [(3, .int (Int32.ofNat i)), (1, .ref x0), (2, .ref m0), (0, .ref b)] [] (wX z σ ad τ) := by
  refine al_aload_n (j := 1) hC rfl rfl dL_law_263 ?_
  refine al_aload_n (j := 3) hC rfl rfl dL_law_264 ?_
  refine al_iload_n (j := 0) hC rfl rfl dL_law_265 ?_
  refine al_iconst (v := 1) hC rfl dL_law_266 ?_
  refine al_iadd hC dL_law_267 ?_
  refine al_sld (j := i + 1) hC hX (Int32.ofNat_add i 1).symm (by omega) dL_law_268 ?_
  refine al_aload_n (j := 3) hC rfl rfl dL_law_269 ?_
  refine al_iload_n (j := 0) hC rfl rfl dL_law_270 ?_
  refine al_iconst (v := 2) hC rfl dL_law_271 ?_
  refine al_iadd hC dL_law_272 ?_
  refine al_sld (j := i + 2) hC hX (Int32.ofNat_add i 2).symm (by omega) dL_law_273 ?_
  refine al_aload_n (j := 3) hC rfl rfl dL_law_274 ?_
  refine al_iload_n (j := 0) hC rfl rfl dL_law_275 ?_
  refine al_iconst (v := 3) hC rfl dL_law_276 ?_
  refine al_iadd hC dL_law_277 ?_
  refine al_sld (j := i + 3) hC hX (Int32.ofNat_add i 3).symm (by omega) dL_law_278 ?_
  refine al_aload_n (j := 3) hC rfl rfl dL_law_279 ?_
  refine al_iload_n (j := 0) hC rfl rfl dL_law_280 ?_
  refine al_iconst (v := 4) hC rfl dL_law_281 ?_
  refine al_iadd hC dL_law_282 ?_
  refine al_sld (j := i + 4) hC hX (Int32.ofNat_add i 4).symm (by omega) dL_law_283 ?_
  refine al_callL (w := wX z σ) (As := [.int (xs (i + 1)), .int (xs (i + 2)), .int (xs (i + 3)), .int (xs (i + 4))]) (rest := []) (s0 := τ) (s1 := τ1) (r0 := r) (q := 36) hC hR lkl_18 (c_W_person τ (xs (i + 1)) (xs (i + 2)) (xs (i + 3)) (xs (i + 4))) hW (fun _ _ h => eqA.L h) dL_law_284 recX10 rfl rfl hx0 rfl ⟨by decide, by decide⟩ (Nat.le_of_ble_eq_true rfl) ⟨by omega, by omega⟩ ⟨_, rfl, fun _ => rfl⟩ (fun ad1 hE1 hC => ?_)
  have hm0 := (hE1 0 (by omega)).trans hm0
  show AL z x 4 Q (k + 0) (n + 0) _ _ _ (wM z τ1 ad1 σ)
  refine al_aload_n (j := 2) hC rfl rfl dL_law_287 ?_
  refine al_aload_n (j := 3) hC rfl rfl dL_law_288 ?_
  refine al_iload_n (j := 0) hC rfl rfl dL_law_289 ?_
  refine al_iconst (v := 1) hC rfl dL_law_290 ?_
  refine al_iadd hC dL_law_291 ?_
  refine al_sld (j := i + 1) hC hX (Int32.ofNat_add i 1).symm (by omega) dL_law_292 ?_
  refine al_aload_n (j := 3) hC rfl rfl dL_law_293 ?_
  refine al_iload_n (j := 0) hC rfl rfl dL_law_294 ?_
  refine al_iconst (v := 2) hC rfl dL_law_295 ?_
  refine al_iadd hC dL_law_296 ?_
  refine al_sld (j := i + 2) hC hX (Int32.ofNat_add i 2).symm (by omega) dL_law_297 ?_
  refine al_aload_n (j := 3) hC rfl rfl dL_law_298 ?_
  refine al_iload_n (j := 0) hC rfl rfl dL_law_299 ?_
  refine al_iconst (v := 3) hC rfl dL_law_300 ?_
  refine al_iadd hC dL_law_301 ?_
  refine al_sld (j := i + 3) hC hX (Int32.ofNat_add i 3).symm (by omega) dL_law_302 ?_
  refine al_aload_n (j := 3) hC rfl rfl dL_law_303 ?_
  refine al_iload_n (j := 0) hC rfl rfl dL_law_304 ?_
  refine al_iconst (v := 4) hC rfl dL_law_305 ?_
  refine al_iadd hC dL_law_306 ?_
  refine al_sld (j := i + 4) hC hX (Int32.ofNat_add i 4).symm (by omega) dL_law_307 ?_
  refine al_callL (w := wM z τ1) (As := [.int (xs (i + 1)), .int (xs (i + 2)), .int (xs (i + 3)), .int (xs (i + 4))]) (rest := [.int r]) (s0 := σ) (s1 := σ1) (r0 := r) (q := 0) hC hR lkl_22 (c_M_person σ (xs (i + 1)) (xs (i + 2)) (xs (i + 3)) (xs (i + 4))) hM (fun _ _ h => eqA.L h) dL_law_308 recX11 rfl rfl hm0 rfl ⟨by decide, by decide⟩ (Nat.le_of_ble_eq_true rfl) ⟨by omega, by omega⟩ ⟨_, rfl, fun _ => rfl⟩ (fun ad2 hE2 hC => ?_)
  show AL z x 4 Q _ _ _ _ _ (wX z σ1 ad2 τ1)
  refine al_icmp_eq (tgt := 2151) hC dL_law_311 rfl (fun _ => ?_) (fun g => absurd rfl g)
  exact kk ad2 (hE1.trans hE2)
theorem dL_law_316 : decode code 316 = .ok (.aload_n 1, 1) := by decide +kernel
theorem dL_law_317 : decode code 317 = .ok (.aload_n 0, 1) := by decide +kernel
theorem dL_law_318 : decode code 318 = .ok (.iload_n 3, 1) := by decide +kernel
theorem dL_law_319 : decode code 319 = .ok (.iconst 1, 1) := by decide +kernel
theorem dL_law_320 : decode code 320 = .ok (.iadd, 1) := by decide +kernel
theorem dL_law_321 : decode code 321 = .ok (.iaload, 1) := by decide +kernel
theorem dL_law_322 : decode code 322 = .ok (.aload_n 0, 1) := by decide +kernel
theorem dL_law_323 : decode code 323 = .ok (.iload_n 3, 1) := by decide +kernel
theorem dL_law_324 : decode code 324 = .ok (.iconst 2, 1) := by decide +kernel
theorem dL_law_325 : decode code 325 = .ok (.iadd, 1) := by decide +kernel
theorem dL_law_326 : decode code 326 = .ok (.iaload, 1) := by decide +kernel
theorem dL_law_327 : decode code 327 = .ok (.invokevirtual 23, 3) := by decide +kernel
theorem dL_law_330 : decode code 330 = .ok (.aload_n 2, 1) := by decide +kernel
theorem dL_law_331 : decode code 331 = .ok (.aload_n 0, 1) := by decide +kernel
theorem dL_law_332 : decode code 332 = .ok (.iload_n 3, 1) := by decide +kernel
theorem dL_law_333 : decode code 333 = .ok (.iconst 1, 1) := by decide +kernel
theorem dL_law_334 : decode code 334 = .ok (.iadd, 1) := by decide +kernel
theorem dL_law_335 : decode code 335 = .ok (.iaload, 1) := by decide +kernel
theorem dL_law_336 : decode code 336 = .ok (.aload_n 0, 1) := by decide +kernel
theorem dL_law_337 : decode code 337 = .ok (.iload_n 3, 1) := by decide +kernel
theorem dL_law_338 : decode code 338 = .ok (.iconst 2, 1) := by decide +kernel
theorem dL_law_339 : decode code 339 = .ok (.iadd, 1) := by decide +kernel
theorem dL_law_340 : decode code 340 = .ok (.iaload, 1) := by decide +kernel
theorem dL_law_341 : decode code 341 = .ok (.invokevirtual 27, 3) := by decide +kernel
theorem dL_law_344 : decode code 344 = .ok (.if_icmp .eq 1807, 3) := by decide +kernel
theorem dL_law_347 : decode code 347 = .ok (.iconst 0, 1) := by decide +kernel
theorem dL_law_348 : decode code 348 = .ok (.ireturn, 1) := by decide +kernel
set_option maxRecDepth 100000 in
theorem law_c2 {z : ZZ} {x : XX} {Q : State → Prop} {k n : Nat} {ad : Nat → Nat} {b L i x0 m0 : Nat} {xs : Nat → Int32} {σ σ1 : MS} {τ τ1 : XS} {r : Int32} (hC : CX z ad x code RL 4 ret) (hR : x.2.2.1 = room_1) (hX : SX z x b L xs) (hx0 : ad 36 = x0) (hm0 : ad 0 = m0) (hi : i + 4 < L) (hk : k + 0 ≤ 600000 ∧ n + 0 ≤ 7302250) (eτ : τ1 = τ) (eσ : σ1 = σ) (hW : W_birth τ (xs (i + 1)) (xs (i + 2)) = some r) (hM : M_birth σ (xs (i + 1)) (xs (i + 2)) = some r) (kk : ∀ ad2, exL ad ad2 → AL z x 4 Q (k + 0 + 0) (n + 0 + 0) 2151 [(3, .int (Int32.ofNat i)), (1, .ref x0), (2, .ref m0), (0, .ref b)] [] (wX z σ1 ad2 τ1)) : AL z x 4 Q k n 316 [(3, .int (Int32.ofNat i)), (1, .ref x0), (2, .ref m0), (0, .ref b)] [] (wX z σ ad τ) := by
  subst eτ
  subst eσ
  refine al_aload_n (j := 1) hC rfl rfl dL_law_316 ?_
  refine al_aload_n (j := 3) hC rfl rfl dL_law_317 ?_
  refine al_iload_n (j := 0) hC rfl rfl dL_law_318 ?_
  refine al_iconst (v := 1) hC rfl dL_law_319 ?_
  refine al_iadd hC dL_law_320 ?_
  refine al_sld (j := i + 1) hC hX (Int32.ofNat_add i 1).symm (by omega) dL_law_321 ?_
  refine al_aload_n (j := 3) hC rfl rfl dL_law_322 ?_
  refine al_iload_n (j := 0) hC rfl rfl dL_law_323 ?_
  refine al_iconst (v := 2) hC rfl dL_law_324 ?_
  refine al_iadd hC dL_law_325 ?_
  refine al_sld (j := i + 2) hC hX (Int32.ofNat_add i 2).symm (by omega) dL_law_326 ?_
  refine al_callL (w := wX z σ) (As := [.int (xs (i + 1)), .int (xs (i + 2))]) (rest := []) (s0 := τ) (s1 := τ) (r0 := r) (q := 36) hC hR lkl_23 (c_W_birth τ (xs (i + 1)) (xs (i + 2))) (by rw [hW]; rfl) (fun _ _ h => eqA.L h) dL_law_327 recX10 rfl rfl hx0 rfl ⟨by decide, by decide⟩ (Nat.le_of_ble_eq_true rfl) ⟨by omega, by omega⟩ ⟨_, rfl, fun _ => rfl⟩ (fun ad1 hE1 hC => ?_)
  have hm0 := (hE1 0 (by omega)).trans hm0
  show AL z x 4 Q (k + 0) (n + 0) _ _ _ (wM z τ1 ad1 σ)
  refine al_aload_n (j := 2) hC rfl rfl dL_law_330 ?_
  refine al_aload_n (j := 3) hC rfl rfl dL_law_331 ?_
  refine al_iload_n (j := 0) hC rfl rfl dL_law_332 ?_
  refine al_iconst (v := 1) hC rfl dL_law_333 ?_
  refine al_iadd hC dL_law_334 ?_
  refine al_sld (j := i + 1) hC hX (Int32.ofNat_add i 1).symm (by omega) dL_law_335 ?_
  refine al_aload_n (j := 3) hC rfl rfl dL_law_336 ?_
  refine al_iload_n (j := 0) hC rfl rfl dL_law_337 ?_
  refine al_iconst (v := 2) hC rfl dL_law_338 ?_
  refine al_iadd hC dL_law_339 ?_
  refine al_sld (j := i + 2) hC hX (Int32.ofNat_add i 2).symm (by omega) dL_law_340 ?_
  refine al_callL (w := wM z τ1) (As := [.int (xs (i + 1)), .int (xs (i + 2))]) (rest := [.int r]) (s0 := σ) (s1 := σ) (r0 := r) (q := 0) hC hR lkl_27 (c_M_birth σ (xs (i + 1)) (xs (i + 2))) (by rw [hM]; rfl) (fun _ _ h => eqA.L h) dL_law_341 recX11 rfl rfl hm0 rfl ⟨by decide, by decide⟩ (Nat.le_of_ble_eq_true rfl) ⟨by omega, by omega⟩ ⟨_, rfl, fun _ => rfl⟩ (fun ad2 hE2 hC => ?_)
  show AL z x 4 Q _ _ _ _ _ (wX z σ1 ad2 τ1)
  refine al_icmp_eq (tgt := 2151) hC dL_law_344 rfl (fun _ => ?_) (fun g => absurd rfl g)
  exact kk ad2 (hE1.trans hE2)
theorem dL_law_349 : decode code 349 = .ok (.aload_n 1, 1) := by decide +kernel
theorem dL_law_350 : decode code 350 = .ok (.aload_n 0, 1) := by decide +kernel
theorem dL_law_351 : decode code 351 = .ok (.iload_n 3, 1) := by decide +kernel
theorem dL_law_352 : decode code 352 = .ok (.iconst 1, 1) := by decide +kernel
theorem dL_law_353 : decode code 353 = .ok (.iadd, 1) := by decide +kernel
theorem dL_law_354 : decode code 354 = .ok (.iaload, 1) := by decide +kernel
theorem dL_law_355 : decode code 355 = .ok (.aload_n 0, 1) := by decide +kernel
theorem dL_law_356 : decode code 356 = .ok (.iload_n 3, 1) := by decide +kernel
theorem dL_law_357 : decode code 357 = .ok (.iconst 2, 1) := by decide +kernel
theorem dL_law_358 : decode code 358 = .ok (.iadd, 1) := by decide +kernel
theorem dL_law_359 : decode code 359 = .ok (.iaload, 1) := by decide +kernel
theorem dL_law_360 : decode code 360 = .ok (.aload_n 0, 1) := by decide +kernel
theorem dL_law_361 : decode code 361 = .ok (.iload_n 3, 1) := by decide +kernel
theorem dL_law_362 : decode code 362 = .ok (.iconst 3, 1) := by decide +kernel
theorem dL_law_363 : decode code 363 = .ok (.iadd, 1) := by decide +kernel
theorem dL_law_364 : decode code 364 = .ok (.iaload, 1) := by decide +kernel
theorem dL_law_365 : decode code 365 = .ok (.invokevirtual 28, 3) := by decide +kernel
theorem dL_law_368 : decode code 368 = .ok (.aload_n 2, 1) := by decide +kernel
theorem dL_law_369 : decode code 369 = .ok (.aload_n 0, 1) := by decide +kernel
theorem dL_law_370 : decode code 370 = .ok (.iload_n 3, 1) := by decide +kernel
theorem dL_law_371 : decode code 371 = .ok (.iconst 1, 1) := by decide +kernel
theorem dL_law_372 : decode code 372 = .ok (.iadd, 1) := by decide +kernel
theorem dL_law_373 : decode code 373 = .ok (.iaload, 1) := by decide +kernel
theorem dL_law_374 : decode code 374 = .ok (.aload_n 0, 1) := by decide +kernel
theorem dL_law_375 : decode code 375 = .ok (.iload_n 3, 1) := by decide +kernel
theorem dL_law_376 : decode code 376 = .ok (.iconst 2, 1) := by decide +kernel
theorem dL_law_377 : decode code 377 = .ok (.iadd, 1) := by decide +kernel
theorem dL_law_378 : decode code 378 = .ok (.iaload, 1) := by decide +kernel
theorem dL_law_379 : decode code 379 = .ok (.aload_n 0, 1) := by decide +kernel
theorem dL_law_380 : decode code 380 = .ok (.iload_n 3, 1) := by decide +kernel
theorem dL_law_381 : decode code 381 = .ok (.iconst 3, 1) := by decide +kernel
theorem dL_law_382 : decode code 382 = .ok (.iadd, 1) := by decide +kernel
theorem dL_law_383 : decode code 383 = .ok (.iaload, 1) := by decide +kernel
theorem dL_law_384 : decode code 384 = .ok (.invokevirtual 32, 3) := by decide +kernel
theorem dL_law_387 : decode code 387 = .ok (.if_icmp .eq 1764, 3) := by decide +kernel
theorem dL_law_390 : decode code 390 = .ok (.iconst 0, 1) := by decide +kernel
theorem dL_law_391 : decode code 391 = .ok (.ireturn, 1) := by decide +kernel
set_option maxRecDepth 100000 in
theorem law_c3 {z : ZZ} {x : XX} {Q : State → Prop} {k n : Nat} {ad : Nat → Nat} {b L i x0 m0 : Nat} {xs : Nat → Int32} {σ σ1 : MS} {τ τ1 : XS} {r : Int32} (hC : CX z ad x code RL 4 ret) (hR : x.2.2.1 = room_1) (hX : SX z x b L xs) (hx0 : ad 36 = x0) (hm0 : ad 0 = m0) (hi : i + 4 < L) (hk : k + 0 ≤ 600000 ∧ n + 0 ≤ 7302250) (hW : W_wed τ (xs (i + 1)) (xs (i + 2)) (xs (i + 3)) = some (r, τ1)) (hM : M_wed σ (xs (i + 1)) (xs (i + 2)) (xs (i + 3)) = some (r, σ1)) (kk : ∀ ad2, exL ad ad2 → AL z x 4 Q (k + 0 + 0) (n + 0 + 0) 2151 [(3, .int (Int32.ofNat i)), (1, .ref x0), (2, .ref m0), (0, .ref b)] [] (wX z σ1 ad2 τ1)) : AL z x 4 Q k n 349 [(3, .int (Int32.ofNat i)), (1, .ref x0), (2, .ref m0), (0, .ref b)] [] (wX z σ ad τ) := by
  refine al_aload_n (j := 1) hC rfl rfl dL_law_349 ?_
  refine al_aload_n (j := 3) hC rfl rfl dL_law_350 ?_
  refine al_iload_n (j := 0) hC rfl rfl dL_law_351 ?_
  refine al_iconst (v := 1) hC rfl dL_law_352 ?_
  refine al_iadd hC dL_law_353 ?_
  refine al_sld (j := i + 1) hC hX (Int32.ofNat_add i 1).symm (by omega) dL_law_354 ?_
  refine al_aload_n (j := 3) hC rfl rfl dL_law_355 ?_
  refine al_iload_n (j := 0) hC rfl rfl dL_law_356 ?_
  refine al_iconst (v := 2) hC rfl dL_law_357 ?_
  refine al_iadd hC dL_law_358 ?_
  refine al_sld (j := i + 2) hC hX (Int32.ofNat_add i 2).symm (by omega) dL_law_359 ?_
  refine al_aload_n (j := 3) hC rfl rfl dL_law_360 ?_
  refine al_iload_n (j := 0) hC rfl rfl dL_law_361 ?_
  refine al_iconst (v := 3) hC rfl dL_law_362 ?_
  refine al_iadd hC dL_law_363 ?_
  refine al_sld (j := i + 3) hC hX (Int32.ofNat_add i 3).symm (by omega) dL_law_364 ?_
  refine al_callL (w := wX z σ) (As := [.int (xs (i + 1)), .int (xs (i + 2)), .int (xs (i + 3))]) (rest := []) (s0 := τ) (s1 := τ1) (r0 := r) (q := 36) hC hR lkl_28 (c_W_wed τ (xs (i + 1)) (xs (i + 2)) (xs (i + 3))) hW (fun _ _ h => eqA.L h) dL_law_365 recX10 rfl rfl hx0 rfl ⟨by decide, by decide⟩ (Nat.le_of_ble_eq_true rfl) ⟨by omega, by omega⟩ ⟨_, rfl, fun _ => rfl⟩ (fun ad1 hE1 hC => ?_)
  have hm0 := (hE1 0 (by omega)).trans hm0
  show AL z x 4 Q (k + 0) (n + 0) _ _ _ (wM z τ1 ad1 σ)
  refine al_aload_n (j := 2) hC rfl rfl dL_law_368 ?_
  refine al_aload_n (j := 3) hC rfl rfl dL_law_369 ?_
  refine al_iload_n (j := 0) hC rfl rfl dL_law_370 ?_
  refine al_iconst (v := 1) hC rfl dL_law_371 ?_
  refine al_iadd hC dL_law_372 ?_
  refine al_sld (j := i + 1) hC hX (Int32.ofNat_add i 1).symm (by omega) dL_law_373 ?_
  refine al_aload_n (j := 3) hC rfl rfl dL_law_374 ?_
  refine al_iload_n (j := 0) hC rfl rfl dL_law_375 ?_
  refine al_iconst (v := 2) hC rfl dL_law_376 ?_
  refine al_iadd hC dL_law_377 ?_
  refine al_sld (j := i + 2) hC hX (Int32.ofNat_add i 2).symm (by omega) dL_law_378 ?_
  refine al_aload_n (j := 3) hC rfl rfl dL_law_379 ?_
  refine al_iload_n (j := 0) hC rfl rfl dL_law_380 ?_
  refine al_iconst (v := 3) hC rfl dL_law_381 ?_
  refine al_iadd hC dL_law_382 ?_
  refine al_sld (j := i + 3) hC hX (Int32.ofNat_add i 3).symm (by omega) dL_law_383 ?_
  refine al_callL (w := wM z τ1) (As := [.int (xs (i + 1)), .int (xs (i + 2)), .int (xs (i + 3))]) (rest := [.int r]) (s0 := σ) (s1 := σ1) (r0 := r) (q := 0) hC hR lkl_32 (c_M_wed σ (xs (i + 1)) (xs (i + 2)) (xs (i + 3))) hM (fun _ _ h => eqA.L h) dL_law_384 recX11 rfl rfl hm0 rfl ⟨by decide, by decide⟩ (Nat.le_of_ble_eq_true rfl) ⟨by omega, by omega⟩ ⟨_, rfl, fun _ => rfl⟩ (fun ad2 hE2 hC => ?_)
  show AL z x 4 Q _ _ _ _ _ (wX z σ1 ad2 τ1)
  refine al_icmp_eq (tgt := 2151) hC dL_law_387 rfl (fun _ => ?_) (fun g => absurd rfl g)
  exact kk ad2 (hE1.trans hE2)
theorem dL_law_392 : decode code 392 = .ok (.aload_n 1, 1) := by decide +kernel
theorem dL_law_393 : decode code 393 = .ok (.aload_n 0, 1) := by decide +kernel
theorem dL_law_394 : decode code 394 = .ok (.iload_n 3, 1) := by decide +kernel
theorem dL_law_395 : decode code 395 = .ok (.iconst 1, 1) := by decide +kernel
theorem dL_law_396 : decode code 396 = .ok (.iadd, 1) := by decide +kernel
theorem dL_law_397 : decode code 397 = .ok (.iaload, 1) := by decide +kernel
theorem dL_law_398 : decode code 398 = .ok (.aload_n 0, 1) := by decide +kernel
theorem dL_law_399 : decode code 399 = .ok (.iload_n 3, 1) := by decide +kernel
theorem dL_law_400 : decode code 400 = .ok (.iconst 2, 1) := by decide +kernel
theorem dL_law_401 : decode code 401 = .ok (.iadd, 1) := by decide +kernel
theorem dL_law_402 : decode code 402 = .ok (.iaload, 1) := by decide +kernel
theorem dL_law_403 : decode code 403 = .ok (.invokevirtual 33, 3) := by decide +kernel
theorem dL_law_406 : decode code 406 = .ok (.aload_n 2, 1) := by decide +kernel
theorem dL_law_407 : decode code 407 = .ok (.aload_n 0, 1) := by decide +kernel
theorem dL_law_408 : decode code 408 = .ok (.iload_n 3, 1) := by decide +kernel
theorem dL_law_409 : decode code 409 = .ok (.iconst 1, 1) := by decide +kernel
theorem dL_law_410 : decode code 410 = .ok (.iadd, 1) := by decide +kernel
theorem dL_law_411 : decode code 411 = .ok (.iaload, 1) := by decide +kernel
theorem dL_law_412 : decode code 412 = .ok (.aload_n 0, 1) := by decide +kernel
theorem dL_law_413 : decode code 413 = .ok (.iload_n 3, 1) := by decide +kernel
theorem dL_law_414 : decode code 414 = .ok (.iconst 2, 1) := by decide +kernel
theorem dL_law_415 : decode code 415 = .ok (.iadd, 1) := by decide +kernel
theorem dL_law_416 : decode code 416 = .ok (.iaload, 1) := by decide +kernel
theorem dL_law_417 : decode code 417 = .ok (.invokevirtual 36, 3) := by decide +kernel
theorem dL_law_420 : decode code 420 = .ok (.if_icmp .eq 1731, 3) := by decide +kernel
theorem dL_law_423 : decode code 423 = .ok (.iconst 0, 1) := by decide +kernel
theorem dL_law_424 : decode code 424 = .ok (.ireturn, 1) := by decide +kernel
set_option maxRecDepth 100000 in
theorem law_c4 {z : ZZ} {x : XX} {Q : State → Prop} {k n : Nat} {ad : Nat → Nat} {b L i x0 m0 : Nat} {xs : Nat → Int32} {σ σ1 : MS} {τ τ1 : XS} {r : Int32} (hC : CX z ad x code RL 4 ret) (hR : x.2.2.1 = room_1) (hX : SX z x b L xs) (hx0 : ad 36 = x0) (hm0 : ad 0 = m0) (hi : i + 4 < L) (hk : k + 0 ≤ 600000 ∧ n + 0 ≤ 7302250) (hW : W_death τ (xs (i + 1)) (xs (i + 2)) = some (r, τ1)) (hM : M_death σ (xs (i + 1)) (xs (i + 2)) = some (r, σ1)) (kk : ∀ ad2, exL ad ad2 → AL z x 4 Q (k + 0 + 0) (n + 0 + 0) 2151 [(3, .int (Int32.ofNat i)), (1, .ref x0), (2, .ref m0), (0, .ref b)] [] (wX z σ1 ad2 τ1)) : AL z x 4 Q k n 392 [(3, .int (Int32.ofNat i)), (1, .ref x0), (2, .ref m0), (0, .ref b)] [] (wX z σ ad τ) := by
  refine al_aload_n (j := 1) hC rfl rfl dL_law_392 ?_
  refine al_aload_n (j := 3) hC rfl rfl dL_law_393 ?_
  refine al_iload_n (j := 0) hC rfl rfl dL_law_394 ?_
  refine al_iconst (v := 1) hC rfl dL_law_395 ?_
  refine al_iadd hC dL_law_396 ?_
  refine al_sld (j := i + 1) hC hX (Int32.ofNat_add i 1).symm (by omega) dL_law_397 ?_
  refine al_aload_n (j := 3) hC rfl rfl dL_law_398 ?_
  refine al_iload_n (j := 0) hC rfl rfl dL_law_399 ?_
  refine al_iconst (v := 2) hC rfl dL_law_400 ?_
  refine al_iadd hC dL_law_401 ?_
  refine al_sld (j := i + 2) hC hX (Int32.ofNat_add i 2).symm (by omega) dL_law_402 ?_
  refine al_callL (w := wX z σ) (As := [.int (xs (i + 1)), .int (xs (i + 2))]) (rest := []) (s0 := τ) (s1 := τ1) (r0 := r) (q := 36) hC hR lkl_33 (c_W_death τ (xs (i + 1)) (xs (i + 2))) hW (fun _ _ h => eqA.L h) dL_law_403 recX10 rfl rfl hx0 rfl ⟨by decide, by decide⟩ (Nat.le_of_ble_eq_true rfl) ⟨by omega, by omega⟩ ⟨_, rfl, fun _ => rfl⟩ (fun ad1 hE1 hC => ?_)
  have hm0 := (hE1 0 (by omega)).trans hm0
  show AL z x 4 Q (k + 0) (n + 0) _ _ _ (wM z τ1 ad1 σ)
  refine al_aload_n (j := 2) hC rfl rfl dL_law_406 ?_
  refine al_aload_n (j := 3) hC rfl rfl dL_law_407 ?_
  refine al_iload_n (j := 0) hC rfl rfl dL_law_408 ?_
  refine al_iconst (v := 1) hC rfl dL_law_409 ?_
  refine al_iadd hC dL_law_410 ?_
  refine al_sld (j := i + 1) hC hX (Int32.ofNat_add i 1).symm (by omega) dL_law_411 ?_
  refine al_aload_n (j := 3) hC rfl rfl dL_law_412 ?_
  refine al_iload_n (j := 0) hC rfl rfl dL_law_413 ?_
  refine al_iconst (v := 2) hC rfl dL_law_414 ?_
  refine al_iadd hC dL_law_415 ?_
  refine al_sld (j := i + 2) hC hX (Int32.ofNat_add i 2).symm (by omega) dL_law_416 ?_
  refine al_callL (w := wM z τ1) (As := [.int (xs (i + 1)), .int (xs (i + 2))]) (rest := [.int r]) (s0 := σ) (s1 := σ1) (r0 := r) (q := 0) hC hR lkl_36 (c_M_death σ (xs (i + 1)) (xs (i + 2))) hM (fun _ _ h => eqA.L h) dL_law_417 recX11 rfl rfl hm0 rfl ⟨by decide, by decide⟩ (Nat.le_of_ble_eq_true rfl) ⟨by omega, by omega⟩ ⟨_, rfl, fun _ => rfl⟩ (fun ad2 hE2 hC => ?_)
  show AL z x 4 Q _ _ _ _ _ (wX z σ1 ad2 τ1)
  refine al_icmp_eq (tgt := 2151) hC dL_law_420 rfl (fun _ => ?_) (fun g => absurd rfl g)
  exact kk ad2 (hE1.trans hE2)
theorem dL_law_425 : decode code 425 = .ok (.aload_n 1, 1) := by decide +kernel
theorem dL_law_426 : decode code 426 = .ok (.aload_n 0, 1) := by decide +kernel
theorem dL_law_427 : decode code 427 = .ok (.iload_n 3, 1) := by decide +kernel
theorem dL_law_428 : decode code 428 = .ok (.iconst 1, 1) := by decide +kernel
theorem dL_law_429 : decode code 429 = .ok (.iadd, 1) := by decide +kernel
theorem dL_law_430 : decode code 430 = .ok (.iaload, 1) := by decide +kernel
theorem dL_law_431 : decode code 431 = .ok (.aload_n 0, 1) := by decide +kernel
theorem dL_law_432 : decode code 432 = .ok (.iload_n 3, 1) := by decide +kernel
theorem dL_law_433 : decode code 433 = .ok (.iconst 2, 1) := by decide +kernel
theorem dL_law_434 : decode code 434 = .ok (.iadd, 1) := by decide +kernel
theorem dL_law_435 : decode code 435 = .ok (.iaload, 1) := by decide +kernel
theorem dL_law_436 : decode code 436 = .ok (.aload_n 0, 1) := by decide +kernel
theorem dL_law_437 : decode code 437 = .ok (.iload_n 3, 1) := by decide +kernel
theorem dL_law_438 : decode code 438 = .ok (.iconst 3, 1) := by decide +kernel
theorem dL_law_439 : decode code 439 = .ok (.iadd, 1) := by decide +kernel
theorem dL_law_440 : decode code 440 = .ok (.iaload, 1) := by decide +kernel
theorem dL_law_441 : decode code 441 = .ok (.aload_n 0, 1) := by decide +kernel
theorem dL_law_442 : decode code 442 = .ok (.iload_n 3, 1) := by decide +kernel
theorem dL_law_443 : decode code 443 = .ok (.iconst 4, 1) := by decide +kernel
theorem dL_law_444 : decode code 444 = .ok (.iadd, 1) := by decide +kernel
theorem dL_law_445 : decode code 445 = .ok (.iaload, 1) := by decide +kernel
theorem dL_law_446 : decode code 446 = .ok (.invokevirtual 37, 3) := by decide +kernel
theorem dL_law_449 : decode code 449 = .ok (.aload_n 2, 1) := by decide +kernel
theorem dL_law_450 : decode code 450 = .ok (.aload_n 0, 1) := by decide +kernel
theorem dL_law_451 : decode code 451 = .ok (.iload_n 3, 1) := by decide +kernel
theorem dL_law_452 : decode code 452 = .ok (.iconst 1, 1) := by decide +kernel
theorem dL_law_453 : decode code 453 = .ok (.iadd, 1) := by decide +kernel
theorem dL_law_454 : decode code 454 = .ok (.iaload, 1) := by decide +kernel
theorem dL_law_455 : decode code 455 = .ok (.aload_n 0, 1) := by decide +kernel
theorem dL_law_456 : decode code 456 = .ok (.iload_n 3, 1) := by decide +kernel
theorem dL_law_457 : decode code 457 = .ok (.iconst 2, 1) := by decide +kernel
theorem dL_law_458 : decode code 458 = .ok (.iadd, 1) := by decide +kernel
theorem dL_law_459 : decode code 459 = .ok (.iaload, 1) := by decide +kernel
theorem dL_law_460 : decode code 460 = .ok (.aload_n 0, 1) := by decide +kernel
theorem dL_law_461 : decode code 461 = .ok (.iload_n 3, 1) := by decide +kernel
theorem dL_law_462 : decode code 462 = .ok (.iconst 3, 1) := by decide +kernel
theorem dL_law_463 : decode code 463 = .ok (.iadd, 1) := by decide +kernel
theorem dL_law_464 : decode code 464 = .ok (.iaload, 1) := by decide +kernel
theorem dL_law_465 : decode code 465 = .ok (.aload_n 0, 1) := by decide +kernel
theorem dL_law_466 : decode code 466 = .ok (.iload_n 3, 1) := by decide +kernel
theorem dL_law_467 : decode code 467 = .ok (.iconst 4, 1) := by decide +kernel
theorem dL_law_468 : decode code 468 = .ok (.iadd, 1) := by decide +kernel
theorem dL_law_469 : decode code 469 = .ok (.iaload, 1) := by decide +kernel
theorem dL_law_470 : decode code 470 = .ok (.invokevirtual 40, 3) := by decide +kernel
theorem dL_law_473 : decode code 473 = .ok (.if_icmp .eq 1678, 3) := by decide +kernel
theorem dL_law_476 : decode code 476 = .ok (.iconst 0, 1) := by decide +kernel
theorem dL_law_477 : decode code 477 = .ok (.ireturn, 1) := by decide +kernel
set_option maxRecDepth 100000 in
theorem law_c5 {z : ZZ} {x : XX} {Q : State → Prop} {k n : Nat} {ad : Nat → Nat} {b L i x0 m0 : Nat} {xs : Nat → Int32} {σ σ1 : MS} {τ τ1 : XS} {r : Int32} (hC : CX z ad x code RL 4 ret) (hR : x.2.2.1 = room_1) (hX : SX z x b L xs) (hx0 : ad 36 = x0) (hm0 : ad 0 = m0) (hi : i + 4 < L) (hk : k + 0 ≤ 600000 ∧ n + 0 ≤ 7302250) (hW : W_member τ (xs (i + 1)) (xs (i + 2)) (xs (i + 3)) (xs (i + 4)) = some (r, τ1)) (hM : M_member σ (xs (i + 1)) (xs (i + 2)) (xs (i + 3)) (xs (i + 4)) = some (r, σ1)) (kk : ∀ ad2, exL ad ad2 → AL z x 4 Q (k + 0 + 0) (n + 0 + 0) 2151 [(3, .int (Int32.ofNat i)), (1, .ref x0), (2, .ref m0), (0, .ref b)] [] (wX z σ1 ad2 τ1)) : AL z x 4 Q k n 425 [(3, .int (Int32.ofNat i)), (1, .ref x0), (2, .ref m0), (0, .ref b)] [] (wX z σ ad τ) := by
  refine al_aload_n (j := 1) hC rfl rfl dL_law_425 ?_
  refine al_aload_n (j := 3) hC rfl rfl dL_law_426 ?_
  refine al_iload_n (j := 0) hC rfl rfl dL_law_427 ?_
  refine al_iconst (v := 1) hC rfl dL_law_428 ?_
  refine al_iadd hC dL_law_429 ?_
  refine al_sld (j := i + 1) hC hX (Int32.ofNat_add i 1).symm (by omega) dL_law_430 ?_
  refine al_aload_n (j := 3) hC rfl rfl dL_law_431 ?_
  refine al_iload_n (j := 0) hC rfl rfl dL_law_432 ?_
  refine al_iconst (v := 2) hC rfl dL_law_433 ?_
  refine al_iadd hC dL_law_434 ?_
  refine al_sld (j := i + 2) hC hX (Int32.ofNat_add i 2).symm (by omega) dL_law_435 ?_
  refine al_aload_n (j := 3) hC rfl rfl dL_law_436 ?_
  refine al_iload_n (j := 0) hC rfl rfl dL_law_437 ?_
  refine al_iconst (v := 3) hC rfl dL_law_438 ?_
  refine al_iadd hC dL_law_439 ?_
  refine al_sld (j := i + 3) hC hX (Int32.ofNat_add i 3).symm (by omega) dL_law_440 ?_
  refine al_aload_n (j := 3) hC rfl rfl dL_law_441 ?_
  refine al_iload_n (j := 0) hC rfl rfl dL_law_442 ?_
  refine al_iconst (v := 4) hC rfl dL_law_443 ?_
  refine al_iadd hC dL_law_444 ?_
  refine al_sld (j := i + 4) hC hX (Int32.ofNat_add i 4).symm (by omega) dL_law_445 ?_
  refine al_callL (w := wX z σ) (As := [.int (xs (i + 1)), .int (xs (i + 2)), .int (xs (i + 3)), .int (xs (i + 4))]) (rest := []) (s0 := τ) (s1 := τ1) (r0 := r) (q := 36) hC hR lkl_37 (c_W_member τ (xs (i + 1)) (xs (i + 2)) (xs (i + 3)) (xs (i + 4))) hW (fun _ _ h => eqA.L h) dL_law_446 recX10 rfl rfl hx0 rfl ⟨by decide, by decide⟩ (Nat.le_of_ble_eq_true rfl) ⟨by omega, by omega⟩ ⟨_, rfl, fun _ => rfl⟩ (fun ad1 hE1 hC => ?_)
  have hm0 := (hE1 0 (by omega)).trans hm0
  show AL z x 4 Q (k + 0) (n + 0) _ _ _ (wM z τ1 ad1 σ)
  refine al_aload_n (j := 2) hC rfl rfl dL_law_449 ?_
  refine al_aload_n (j := 3) hC rfl rfl dL_law_450 ?_
  refine al_iload_n (j := 0) hC rfl rfl dL_law_451 ?_
  refine al_iconst (v := 1) hC rfl dL_law_452 ?_
  refine al_iadd hC dL_law_453 ?_
  refine al_sld (j := i + 1) hC hX (Int32.ofNat_add i 1).symm (by omega) dL_law_454 ?_
  refine al_aload_n (j := 3) hC rfl rfl dL_law_455 ?_
  refine al_iload_n (j := 0) hC rfl rfl dL_law_456 ?_
  refine al_iconst (v := 2) hC rfl dL_law_457 ?_
  refine al_iadd hC dL_law_458 ?_
  refine al_sld (j := i + 2) hC hX (Int32.ofNat_add i 2).symm (by omega) dL_law_459 ?_
  refine al_aload_n (j := 3) hC rfl rfl dL_law_460 ?_
  refine al_iload_n (j := 0) hC rfl rfl dL_law_461 ?_
  refine al_iconst (v := 3) hC rfl dL_law_462 ?_
  refine al_iadd hC dL_law_463 ?_
  refine al_sld (j := i + 3) hC hX (Int32.ofNat_add i 3).symm (by omega) dL_law_464 ?_
  refine al_aload_n (j := 3) hC rfl rfl dL_law_465 ?_
  refine al_iload_n (j := 0) hC rfl rfl dL_law_466 ?_
  refine al_iconst (v := 4) hC rfl dL_law_467 ?_
  refine al_iadd hC dL_law_468 ?_
  refine al_sld (j := i + 4) hC hX (Int32.ofNat_add i 4).symm (by omega) dL_law_469 ?_
  refine al_callL (w := wM z τ1) (As := [.int (xs (i + 1)), .int (xs (i + 2)), .int (xs (i + 3)), .int (xs (i + 4))]) (rest := [.int r]) (s0 := σ) (s1 := σ1) (r0 := r) (q := 0) hC hR lkl_40 (c_M_member σ (xs (i + 1)) (xs (i + 2)) (xs (i + 3)) (xs (i + 4))) hM (fun _ _ h => eqA.L h) dL_law_470 recX11 rfl rfl hm0 rfl ⟨by decide, by decide⟩ (Nat.le_of_ble_eq_true rfl) ⟨by omega, by omega⟩ ⟨_, rfl, fun _ => rfl⟩ (fun ad2 hE2 hC => ?_)
  show AL z x 4 Q _ _ _ _ _ (wX z σ1 ad2 τ1)
  refine al_icmp_eq (tgt := 2151) hC dL_law_473 rfl (fun _ => ?_) (fun g => absurd rfl g)
  exact kk ad2 (hE1.trans hE2)
theorem dL_law_478 : decode code 478 = .ok (.aload_n 1, 1) := by decide +kernel
theorem dL_law_479 : decode code 479 = .ok (.aload_n 0, 1) := by decide +kernel
theorem dL_law_480 : decode code 480 = .ok (.iload_n 3, 1) := by decide +kernel
theorem dL_law_481 : decode code 481 = .ok (.iconst 1, 1) := by decide +kernel
theorem dL_law_482 : decode code 482 = .ok (.iadd, 1) := by decide +kernel
theorem dL_law_483 : decode code 483 = .ok (.iaload, 1) := by decide +kernel
theorem dL_law_484 : decode code 484 = .ok (.aload_n 0, 1) := by decide +kernel
theorem dL_law_485 : decode code 485 = .ok (.iload_n 3, 1) := by decide +kernel
theorem dL_law_486 : decode code 486 = .ok (.iconst 2, 1) := by decide +kernel
theorem dL_law_487 : decode code 487 = .ok (.iadd, 1) := by decide +kernel
theorem dL_law_488 : decode code 488 = .ok (.iaload, 1) := by decide +kernel
theorem dL_law_489 : decode code 489 = .ok (.aload_n 0, 1) := by decide +kernel
theorem dL_law_490 : decode code 490 = .ok (.iload_n 3, 1) := by decide +kernel
theorem dL_law_491 : decode code 491 = .ok (.iconst 3, 1) := by decide +kernel
theorem dL_law_492 : decode code 492 = .ok (.iadd, 1) := by decide +kernel
theorem dL_law_493 : decode code 493 = .ok (.iaload, 1) := by decide +kernel
theorem dL_law_494 : decode code 494 = .ok (.invokevirtual 41, 3) := by decide +kernel
theorem dL_law_497 : decode code 497 = .ok (.aload_n 2, 1) := by decide +kernel
theorem dL_law_498 : decode code 498 = .ok (.aload_n 0, 1) := by decide +kernel
theorem dL_law_499 : decode code 499 = .ok (.iload_n 3, 1) := by decide +kernel
theorem dL_law_500 : decode code 500 = .ok (.iconst 1, 1) := by decide +kernel
theorem dL_law_501 : decode code 501 = .ok (.iadd, 1) := by decide +kernel
theorem dL_law_502 : decode code 502 = .ok (.iaload, 1) := by decide +kernel
theorem dL_law_503 : decode code 503 = .ok (.aload_n 0, 1) := by decide +kernel
theorem dL_law_504 : decode code 504 = .ok (.iload_n 3, 1) := by decide +kernel
theorem dL_law_505 : decode code 505 = .ok (.iconst 2, 1) := by decide +kernel
theorem dL_law_506 : decode code 506 = .ok (.iadd, 1) := by decide +kernel
theorem dL_law_507 : decode code 507 = .ok (.iaload, 1) := by decide +kernel
theorem dL_law_508 : decode code 508 = .ok (.aload_n 0, 1) := by decide +kernel
theorem dL_law_509 : decode code 509 = .ok (.iload_n 3, 1) := by decide +kernel
theorem dL_law_510 : decode code 510 = .ok (.iconst 3, 1) := by decide +kernel
theorem dL_law_511 : decode code 511 = .ok (.iadd, 1) := by decide +kernel
theorem dL_law_512 : decode code 512 = .ok (.iaload, 1) := by decide +kernel
theorem dL_law_513 : decode code 513 = .ok (.invokevirtual 44, 3) := by decide +kernel
theorem dL_law_516 : decode code 516 = .ok (.if_icmp .eq 1635, 3) := by decide +kernel
theorem dL_law_519 : decode code 519 = .ok (.iconst 0, 1) := by decide +kernel
theorem dL_law_520 : decode code 520 = .ok (.ireturn, 1) := by decide +kernel
set_option maxRecDepth 100000 in
theorem law_c6 {z : ZZ} {x : XX} {Q : State → Prop} {k n : Nat} {ad : Nat → Nat} {b L i x0 m0 : Nat} {xs : Nat → Int32} {σ σ1 : MS} {τ τ1 : XS} {r : Int32} (hC : CX z ad x code RL 4 ret) (hR : x.2.2.1 = room_1) (hX : SX z x b L xs) (hx0 : ad 36 = x0) (hm0 : ad 0 = m0) (hi : i + 4 < L) (hk : k + 0 ≤ 600000 ∧ n + 0 ≤ 7302250) (hW : W_rate τ (xs (i + 1)) (xs (i + 2)) (xs (i + 3)) = some (r, τ1)) (hM : M_rate σ (xs (i + 1)) (xs (i + 2)) (xs (i + 3)) = some (r, σ1)) (kk : ∀ ad2, exL ad ad2 → AL z x 4 Q (k + 0 + 0) (n + 0 + 0) 2151 [(3, .int (Int32.ofNat i)), (1, .ref x0), (2, .ref m0), (0, .ref b)] [] (wX z σ1 ad2 τ1)) : AL z x 4 Q k n 478 [(3, .int (Int32.ofNat i)), (1, .ref x0), (2, .ref m0), (0, .ref b)] [] (wX z σ ad τ) := by
  refine al_aload_n (j := 1) hC rfl rfl dL_law_478 ?_
  refine al_aload_n (j := 3) hC rfl rfl dL_law_479 ?_
  refine al_iload_n (j := 0) hC rfl rfl dL_law_480 ?_
  refine al_iconst (v := 1) hC rfl dL_law_481 ?_
  refine al_iadd hC dL_law_482 ?_
  refine al_sld (j := i + 1) hC hX (Int32.ofNat_add i 1).symm (by omega) dL_law_483 ?_
  refine al_aload_n (j := 3) hC rfl rfl dL_law_484 ?_
  refine al_iload_n (j := 0) hC rfl rfl dL_law_485 ?_
  refine al_iconst (v := 2) hC rfl dL_law_486 ?_
  refine al_iadd hC dL_law_487 ?_
  refine al_sld (j := i + 2) hC hX (Int32.ofNat_add i 2).symm (by omega) dL_law_488 ?_
  refine al_aload_n (j := 3) hC rfl rfl dL_law_489 ?_
  refine al_iload_n (j := 0) hC rfl rfl dL_law_490 ?_
  refine al_iconst (v := 3) hC rfl dL_law_491 ?_
  refine al_iadd hC dL_law_492 ?_
  refine al_sld (j := i + 3) hC hX (Int32.ofNat_add i 3).symm (by omega) dL_law_493 ?_
  refine al_callL (w := wX z σ) (As := [.int (xs (i + 1)), .int (xs (i + 2)), .int (xs (i + 3))]) (rest := []) (s0 := τ) (s1 := τ1) (r0 := r) (q := 36) hC hR lkl_41 (c_W_rate τ (xs (i + 1)) (xs (i + 2)) (xs (i + 3))) hW (fun _ _ h => eqA.L h) dL_law_494 recX10 rfl rfl hx0 rfl ⟨by decide, by decide⟩ (Nat.le_of_ble_eq_true rfl) ⟨by omega, by omega⟩ ⟨_, rfl, fun _ => rfl⟩ (fun ad1 hE1 hC => ?_)
  have hm0 := (hE1 0 (by omega)).trans hm0
  show AL z x 4 Q (k + 0) (n + 0) _ _ _ (wM z τ1 ad1 σ)
  refine al_aload_n (j := 2) hC rfl rfl dL_law_497 ?_
  refine al_aload_n (j := 3) hC rfl rfl dL_law_498 ?_
  refine al_iload_n (j := 0) hC rfl rfl dL_law_499 ?_
  refine al_iconst (v := 1) hC rfl dL_law_500 ?_
  refine al_iadd hC dL_law_501 ?_
  refine al_sld (j := i + 1) hC hX (Int32.ofNat_add i 1).symm (by omega) dL_law_502 ?_
  refine al_aload_n (j := 3) hC rfl rfl dL_law_503 ?_
  refine al_iload_n (j := 0) hC rfl rfl dL_law_504 ?_
  refine al_iconst (v := 2) hC rfl dL_law_505 ?_
  refine al_iadd hC dL_law_506 ?_
  refine al_sld (j := i + 2) hC hX (Int32.ofNat_add i 2).symm (by omega) dL_law_507 ?_
  refine al_aload_n (j := 3) hC rfl rfl dL_law_508 ?_
  refine al_iload_n (j := 0) hC rfl rfl dL_law_509 ?_
  refine al_iconst (v := 3) hC rfl dL_law_510 ?_
  refine al_iadd hC dL_law_511 ?_
  refine al_sld (j := i + 3) hC hX (Int32.ofNat_add i 3).symm (by omega) dL_law_512 ?_
  refine al_callL (w := wM z τ1) (As := [.int (xs (i + 1)), .int (xs (i + 2)), .int (xs (i + 3))]) (rest := [.int r]) (s0 := σ) (s1 := σ1) (r0 := r) (q := 0) hC hR lkl_44 (c_M_rate σ (xs (i + 1)) (xs (i + 2)) (xs (i + 3))) hM (fun _ _ h => eqA.L h) dL_law_513 recX11 rfl rfl hm0 rfl ⟨by decide, by decide⟩ (Nat.le_of_ble_eq_true rfl) ⟨by omega, by omega⟩ ⟨_, rfl, fun _ => rfl⟩ (fun ad2 hE2 hC => ?_)
  show AL z x 4 Q _ _ _ _ _ (wX z σ1 ad2 τ1)
  refine al_icmp_eq (tgt := 2151) hC dL_law_516 rfl (fun _ => ?_) (fun g => absurd rfl g)
  exact kk ad2 (hE1.trans hE2)
theorem dL_law_521 : decode code 521 = .ok (.aload_n 1, 1) := by decide +kernel
theorem dL_law_522 : decode code 522 = .ok (.aload_n 0, 1) := by decide +kernel
theorem dL_law_523 : decode code 523 = .ok (.iload_n 3, 1) := by decide +kernel
theorem dL_law_524 : decode code 524 = .ok (.iconst 1, 1) := by decide +kernel
theorem dL_law_525 : decode code 525 = .ok (.iadd, 1) := by decide +kernel
theorem dL_law_526 : decode code 526 = .ok (.iaload, 1) := by decide +kernel
theorem dL_law_527 : decode code 527 = .ok (.aload_n 0, 1) := by decide +kernel
theorem dL_law_528 : decode code 528 = .ok (.iload_n 3, 1) := by decide +kernel
theorem dL_law_529 : decode code 529 = .ok (.iconst 2, 1) := by decide +kernel
theorem dL_law_530 : decode code 530 = .ok (.iadd, 1) := by decide +kernel
theorem dL_law_531 : decode code 531 = .ok (.iaload, 1) := by decide +kernel
theorem dL_law_532 : decode code 532 = .ok (.ifCond .eq 7, 3) := by decide +kernel
theorem dL_law_535 : decode code 535 = .ok (.iconst 1, 1) := by decide +kernel
theorem dL_law_536 : decode code 536 = .ok (.goto 4, 3) := by decide +kernel
theorem dL_law_539 : decode code 539 = .ok (.iconst 0, 1) := by decide +kernel
theorem dL_law_540 : decode code 540 = .ok (.aload_n 0, 1) := by decide +kernel
theorem dL_law_541 : decode code 541 = .ok (.iload_n 3, 1) := by decide +kernel
theorem dL_law_542 : decode code 542 = .ok (.iconst 3, 1) := by decide +kernel
theorem dL_law_543 : decode code 543 = .ok (.iadd, 1) := by decide +kernel
theorem dL_law_544 : decode code 544 = .ok (.iaload, 1) := by decide +kernel
theorem dL_law_545 : decode code 545 = .ok (.invokevirtual 45, 3) := by decide +kernel
theorem dL_law_548 : decode code 548 = .ok (.aload_n 2, 1) := by decide +kernel
theorem dL_law_549 : decode code 549 = .ok (.aload_n 0, 1) := by decide +kernel
theorem dL_law_550 : decode code 550 = .ok (.iload_n 3, 1) := by decide +kernel
theorem dL_law_551 : decode code 551 = .ok (.iconst 1, 1) := by decide +kernel
theorem dL_law_552 : decode code 552 = .ok (.iadd, 1) := by decide +kernel
theorem dL_law_553 : decode code 553 = .ok (.iaload, 1) := by decide +kernel
theorem dL_law_554 : decode code 554 = .ok (.aload_n 0, 1) := by decide +kernel
theorem dL_law_555 : decode code 555 = .ok (.iload_n 3, 1) := by decide +kernel
theorem dL_law_556 : decode code 556 = .ok (.iconst 2, 1) := by decide +kernel
theorem dL_law_557 : decode code 557 = .ok (.iadd, 1) := by decide +kernel
theorem dL_law_558 : decode code 558 = .ok (.iaload, 1) := by decide +kernel
theorem dL_law_559 : decode code 559 = .ok (.ifCond .eq 7, 3) := by decide +kernel
theorem dL_law_562 : decode code 562 = .ok (.iconst 1, 1) := by decide +kernel
theorem dL_law_563 : decode code 563 = .ok (.goto 4, 3) := by decide +kernel
theorem dL_law_566 : decode code 566 = .ok (.iconst 0, 1) := by decide +kernel
theorem dL_law_567 : decode code 567 = .ok (.aload_n 0, 1) := by decide +kernel
theorem dL_law_568 : decode code 568 = .ok (.iload_n 3, 1) := by decide +kernel
theorem dL_law_569 : decode code 569 = .ok (.iconst 3, 1) := by decide +kernel
theorem dL_law_570 : decode code 570 = .ok (.iadd, 1) := by decide +kernel
theorem dL_law_571 : decode code 571 = .ok (.iaload, 1) := by decide +kernel
theorem dL_law_572 : decode code 572 = .ok (.invokevirtual 49, 3) := by decide +kernel
theorem dL_law_575 : decode code 575 = .ok (.if_icmp .eq 1576, 3) := by decide +kernel
theorem dL_law_578 : decode code 578 = .ok (.iconst 0, 1) := by decide +kernel
theorem dL_law_579 : decode code 579 = .ok (.ireturn, 1) := by decide +kernel
set_option maxRecDepth 100000 in
theorem law_c7 {z : ZZ} {x : XX} {Q : State → Prop} {k n : Nat} {ad : Nat → Nat} {b L i x0 m0 : Nat} {xs : Nat → Int32} {σ σ1 : MS} {τ τ1 : XS} {r : Int32} (hC : CX z ad x code RL 4 ret) (hR : x.2.2.1 = room_1) (hX : SX z x b L xs) (hx0 : ad 36 = x0) (hm0 : ad 0 = m0) (hi : i + 4 < L) (hk : k + 0 ≤ 600000 ∧ n + 0 ≤ 7302250) (hW : W_gone τ (xs (i + 1)) (if xs (i + 2) = 0 then 0 else 1) (xs (i + 3)) = some (r, τ1)) (hM : M_gone σ (xs (i + 1)) (if xs (i + 2) = 0 then 0 else 1) (xs (i + 3)) = some (r, σ1)) (kk : ∀ ad2, exL ad ad2 → AL z x 4 Q (k + 0 + 0) (n + 0 + 0) 2151 [(3, .int (Int32.ofNat i)), (1, .ref x0), (2, .ref m0), (0, .ref b)] [] (wX z σ1 ad2 τ1)) : AL z x 4 Q k n 521 [(3, .int (Int32.ofNat i)), (1, .ref x0), (2, .ref m0), (0, .ref b)] [] (wX z σ ad τ) := by
  refine al_aload_n (j := 1) hC rfl rfl dL_law_521 ?_
  refine al_aload_n (j := 3) hC rfl rfl dL_law_522 ?_
  refine al_iload_n (j := 0) hC rfl rfl dL_law_523 ?_
  refine al_iconst (v := 1) hC rfl dL_law_524 ?_
  refine al_iadd hC dL_law_525 ?_
  refine al_sld (j := i + 1) hC hX (Int32.ofNat_add i 1).symm (by omega) dL_law_526 ?_
  refine al_aload_n (j := 3) hC rfl rfl dL_law_527 ?_
  refine al_iload_n (j := 0) hC rfl rfl dL_law_528 ?_
  refine al_iconst (v := 2) hC rfl dL_law_529 ?_
  refine al_iadd hC dL_law_530 ?_
  refine al_sld (j := i + 2) hC hX (Int32.ofNat_add i 2).symm (by omega) dL_law_531 ?_
  refine al_if_eq (tgt := 539) hC dL_law_532 rfl (fun g532 => ?_) (fun g532 => ?_)
  · refine al_iconst (v := 0) hC rfl dL_law_539 ?_
    try rw [if_pos g532] at hW hM
    refine al_aload_n (j := 3) hC rfl rfl dL_law_540 ?_
    refine al_iload_n (j := 0) hC rfl rfl dL_law_541 ?_
    refine al_iconst (v := 3) hC rfl dL_law_542 ?_
    refine al_iadd hC dL_law_543 ?_
    refine al_sld (j := i + 3) hC hX (Int32.ofNat_add i 3).symm (by omega) dL_law_544 ?_
    refine al_callL (w := wX z σ) (As := [.int (xs (i + 1)), .int 0, .int (xs (i + 3))]) (rest := []) (s0 := τ) (s1 := τ1) (r0 := r) (q := 36) hC hR lkl_45 (c_W_gone τ (xs (i + 1)) 0 (xs (i + 3))) hW (fun _ _ h => eqA.L h) dL_law_545 recX10 rfl rfl hx0 rfl ⟨by decide, by decide⟩ (Nat.le_of_ble_eq_true rfl) ⟨by omega, by omega⟩ ⟨_, rfl, fun _ => rfl⟩ (fun ad1 hE1 hC => ?_)
    have hm0 := (hE1 0 (by omega)).trans hm0
    show AL z x 4 Q (k + 0) (n + 0) _ _ _ (wM z τ1 ad1 σ)
    refine al_aload_n (j := 2) hC rfl rfl dL_law_548 ?_
    refine al_aload_n (j := 3) hC rfl rfl dL_law_549 ?_
    refine al_iload_n (j := 0) hC rfl rfl dL_law_550 ?_
    refine al_iconst (v := 1) hC rfl dL_law_551 ?_
    refine al_iadd hC dL_law_552 ?_
    refine al_sld (j := i + 1) hC hX (Int32.ofNat_add i 1).symm (by omega) dL_law_553 ?_
    refine al_aload_n (j := 3) hC rfl rfl dL_law_554 ?_
    refine al_iload_n (j := 0) hC rfl rfl dL_law_555 ?_
    refine al_iconst (v := 2) hC rfl dL_law_556 ?_
    refine al_iadd hC dL_law_557 ?_
    refine al_sld (j := i + 2) hC hX (Int32.ofNat_add i 2).symm (by omega) dL_law_558 ?_
    refine al_if_eq (tgt := 566) hC dL_law_559 rfl (fun g559 => ?_) (fun g559 => ?_)
    · refine al_iconst (v := 0) hC rfl dL_law_566 ?_
      try rw [if_pos g559] at hW hM
      refine al_aload_n (j := 3) hC rfl rfl dL_law_567 ?_
      refine al_iload_n (j := 0) hC rfl rfl dL_law_568 ?_
      refine al_iconst (v := 3) hC rfl dL_law_569 ?_
      refine al_iadd hC dL_law_570 ?_
      refine al_sld (j := i + 3) hC hX (Int32.ofNat_add i 3).symm (by omega) dL_law_571 ?_
      refine al_callL (w := wM z τ1) (As := [.int (xs (i + 1)), .int 0, .int (xs (i + 3))]) (rest := [.int r]) (s0 := σ) (s1 := σ1) (r0 := r) (q := 0) hC hR lkl_49 (c_M_gone σ (xs (i + 1)) 0 (xs (i + 3))) hM (fun _ _ h => eqA.L h) dL_law_572 recX11 rfl rfl hm0 rfl ⟨by decide, by decide⟩ (Nat.le_of_ble_eq_true rfl) ⟨by omega, by omega⟩ ⟨_, rfl, fun _ => rfl⟩ (fun ad2 hE2 hC => ?_)
      show AL z x 4 Q _ _ _ _ _ (wX z σ1 ad2 τ1)
      refine al_icmp_eq (tgt := 2151) hC dL_law_575 rfl (fun _ => ?_) (fun g => absurd rfl g)
      exact kk ad2 (hE1.trans hE2)
    · refine al_iconst (v := 1) hC rfl dL_law_562 ?_
      refine al_goto (tgt := 567) hC dL_law_563 rfl ?_
      try rw [if_neg g559] at hW hM
      refine al_aload_n (j := 3) hC rfl rfl dL_law_567 ?_
      refine al_iload_n (j := 0) hC rfl rfl dL_law_568 ?_
      refine al_iconst (v := 3) hC rfl dL_law_569 ?_
      refine al_iadd hC dL_law_570 ?_
      refine al_sld (j := i + 3) hC hX (Int32.ofNat_add i 3).symm (by omega) dL_law_571 ?_
      refine al_callL (w := wM z τ1) (As := [.int (xs (i + 1)), .int 1, .int (xs (i + 3))]) (rest := [.int r]) (s0 := σ) (s1 := σ1) (r0 := r) (q := 0) hC hR lkl_49 (c_M_gone σ (xs (i + 1)) 1 (xs (i + 3))) hM (fun _ _ h => eqA.L h) dL_law_572 recX11 rfl rfl hm0 rfl ⟨by decide, by decide⟩ (Nat.le_of_ble_eq_true rfl) ⟨by omega, by omega⟩ ⟨_, rfl, fun _ => rfl⟩ (fun ad2 hE2 hC => ?_)
      show AL z x 4 Q _ _ _ _ _ (wX z σ1 ad2 τ1)
      refine al_icmp_eq (tgt := 2151) hC dL_law_575 rfl (fun _ => ?_) (fun g => absurd rfl g)
      exact kk ad2 (hE1.trans hE2)
  · refine al_iconst (v := 1) hC rfl dL_law_535 ?_
    refine al_goto (tgt := 540) hC dL_law_536 rfl ?_
    try rw [if_neg g532] at hW hM
    refine al_aload_n (j := 3) hC rfl rfl dL_law_540 ?_
    refine al_iload_n (j := 0) hC rfl rfl dL_law_541 ?_
    refine al_iconst (v := 3) hC rfl dL_law_542 ?_
    refine al_iadd hC dL_law_543 ?_
    refine al_sld (j := i + 3) hC hX (Int32.ofNat_add i 3).symm (by omega) dL_law_544 ?_
    refine al_callL (w := wX z σ) (As := [.int (xs (i + 1)), .int 1, .int (xs (i + 3))]) (rest := []) (s0 := τ) (s1 := τ1) (r0 := r) (q := 36) hC hR lkl_45 (c_W_gone τ (xs (i + 1)) 1 (xs (i + 3))) hW (fun _ _ h => eqA.L h) dL_law_545 recX10 rfl rfl hx0 rfl ⟨by decide, by decide⟩ (Nat.le_of_ble_eq_true rfl) ⟨by omega, by omega⟩ ⟨_, rfl, fun _ => rfl⟩ (fun ad1 hE1 hC => ?_)
    have hm0 := (hE1 0 (by omega)).trans hm0
    show AL z x 4 Q (k + 0) (n + 0) _ _ _ (wM z τ1 ad1 σ)
    refine al_aload_n (j := 2) hC rfl rfl dL_law_548 ?_
    refine al_aload_n (j := 3) hC rfl rfl dL_law_549 ?_
    refine al_iload_n (j := 0) hC rfl rfl dL_law_550 ?_
    refine al_iconst (v := 1) hC rfl dL_law_551 ?_
    refine al_iadd hC dL_law_552 ?_
    refine al_sld (j := i + 1) hC hX (Int32.ofNat_add i 1).symm (by omega) dL_law_553 ?_
    refine al_aload_n (j := 3) hC rfl rfl dL_law_554 ?_
    refine al_iload_n (j := 0) hC rfl rfl dL_law_555 ?_
    refine al_iconst (v := 2) hC rfl dL_law_556 ?_
    refine al_iadd hC dL_law_557 ?_
    refine al_sld (j := i + 2) hC hX (Int32.ofNat_add i 2).symm (by omega) dL_law_558 ?_
    refine al_if_eq (tgt := 566) hC dL_law_559 rfl (fun g559 => ?_) (fun g559 => ?_)
    · refine al_iconst (v := 0) hC rfl dL_law_566 ?_
      try rw [if_pos g559] at hW hM
      refine al_aload_n (j := 3) hC rfl rfl dL_law_567 ?_
      refine al_iload_n (j := 0) hC rfl rfl dL_law_568 ?_
      refine al_iconst (v := 3) hC rfl dL_law_569 ?_
      refine al_iadd hC dL_law_570 ?_
      refine al_sld (j := i + 3) hC hX (Int32.ofNat_add i 3).symm (by omega) dL_law_571 ?_
      refine al_callL (w := wM z τ1) (As := [.int (xs (i + 1)), .int 0, .int (xs (i + 3))]) (rest := [.int r]) (s0 := σ) (s1 := σ1) (r0 := r) (q := 0) hC hR lkl_49 (c_M_gone σ (xs (i + 1)) 0 (xs (i + 3))) hM (fun _ _ h => eqA.L h) dL_law_572 recX11 rfl rfl hm0 rfl ⟨by decide, by decide⟩ (Nat.le_of_ble_eq_true rfl) ⟨by omega, by omega⟩ ⟨_, rfl, fun _ => rfl⟩ (fun ad2 hE2 hC => ?_)
      show AL z x 4 Q _ _ _ _ _ (wX z σ1 ad2 τ1)
      refine al_icmp_eq (tgt := 2151) hC dL_law_575 rfl (fun _ => ?_) (fun g => absurd rfl g)
      exact kk ad2 (hE1.trans hE2)
    · refine al_iconst (v := 1) hC rfl dL_law_562 ?_
      refine al_goto (tgt := 567) hC dL_law_563 rfl ?_
      try rw [if_neg g559] at hW hM
      refine al_aload_n (j := 3) hC rfl rfl dL_law_567 ?_
      refine al_iload_n (j := 0) hC rfl rfl dL_law_568 ?_
      refine al_iconst (v := 3) hC rfl dL_law_569 ?_
      refine al_iadd hC dL_law_570 ?_
      refine al_sld (j := i + 3) hC hX (Int32.ofNat_add i 3).symm (by omega) dL_law_571 ?_
      refine al_callL (w := wM z τ1) (As := [.int (xs (i + 1)), .int 1, .int (xs (i + 3))]) (rest := [.int r]) (s0 := σ) (s1 := σ1) (r0 := r) (q := 0) hC hR lkl_49 (c_M_gone σ (xs (i + 1)) 1 (xs (i + 3))) hM (fun _ _ h => eqA.L h) dL_law_572 recX11 rfl rfl hm0 rfl ⟨by decide, by decide⟩ (Nat.le_of_ble_eq_true rfl) ⟨by omega, by omega⟩ ⟨_, rfl, fun _ => rfl⟩ (fun ad2 hE2 hC => ?_)
      show AL z x 4 Q _ _ _ _ _ (wX z σ1 ad2 τ1)
      refine al_icmp_eq (tgt := 2151) hC dL_law_575 rfl (fun _ => ?_) (fun g => absurd rfl g)
      exact kk ad2 (hE1.trans hE2)
theorem dL_law_580 : decode code 580 = .ok (.aload_n 1, 1) := by decide +kernel
theorem dL_law_581 : decode code 581 = .ok (.aload_n 0, 1) := by decide +kernel
theorem dL_law_582 : decode code 582 = .ok (.iload_n 3, 1) := by decide +kernel
theorem dL_law_583 : decode code 583 = .ok (.iconst 1, 1) := by decide +kernel
theorem dL_law_584 : decode code 584 = .ok (.iadd, 1) := by decide +kernel
theorem dL_law_585 : decode code 585 = .ok (.iaload, 1) := by decide +kernel
theorem dL_law_586 : decode code 586 = .ok (.aload_n 0, 1) := by decide +kernel
theorem dL_law_587 : decode code 587 = .ok (.iload_n 3, 1) := by decide +kernel
theorem dL_law_588 : decode code 588 = .ok (.iconst 2, 1) := by decide +kernel
theorem dL_law_589 : decode code 589 = .ok (.iadd, 1) := by decide +kernel
theorem dL_law_590 : decode code 590 = .ok (.iaload, 1) := by decide +kernel
theorem dL_law_591 : decode code 591 = .ok (.aload_n 0, 1) := by decide +kernel
theorem dL_law_592 : decode code 592 = .ok (.iload_n 3, 1) := by decide +kernel
theorem dL_law_593 : decode code 593 = .ok (.iconst 3, 1) := by decide +kernel
theorem dL_law_594 : decode code 594 = .ok (.iadd, 1) := by decide +kernel
theorem dL_law_595 : decode code 595 = .ok (.iaload, 1) := by decide +kernel
theorem dL_law_596 : decode code 596 = .ok (.invokevirtual 50, 3) := by decide +kernel
theorem dL_law_599 : decode code 599 = .ok (.aload_n 2, 1) := by decide +kernel
theorem dL_law_600 : decode code 600 = .ok (.aload_n 0, 1) := by decide +kernel
theorem dL_law_601 : decode code 601 = .ok (.iload_n 3, 1) := by decide +kernel
theorem dL_law_602 : decode code 602 = .ok (.iconst 1, 1) := by decide +kernel
theorem dL_law_603 : decode code 603 = .ok (.iadd, 1) := by decide +kernel
theorem dL_law_604 : decode code 604 = .ok (.iaload, 1) := by decide +kernel
theorem dL_law_605 : decode code 605 = .ok (.aload_n 0, 1) := by decide +kernel
theorem dL_law_606 : decode code 606 = .ok (.iload_n 3, 1) := by decide +kernel
theorem dL_law_607 : decode code 607 = .ok (.iconst 2, 1) := by decide +kernel
theorem dL_law_608 : decode code 608 = .ok (.iadd, 1) := by decide +kernel
theorem dL_law_609 : decode code 609 = .ok (.iaload, 1) := by decide +kernel
theorem dL_law_610 : decode code 610 = .ok (.aload_n 0, 1) := by decide +kernel
theorem dL_law_611 : decode code 611 = .ok (.iload_n 3, 1) := by decide +kernel
theorem dL_law_612 : decode code 612 = .ok (.iconst 3, 1) := by decide +kernel
theorem dL_law_613 : decode code 613 = .ok (.iadd, 1) := by decide +kernel
theorem dL_law_614 : decode code 614 = .ok (.iaload, 1) := by decide +kernel
theorem dL_law_615 : decode code 615 = .ok (.invokevirtual 53, 3) := by decide +kernel
theorem dL_law_618 : decode code 618 = .ok (.if_icmp .eq 1533, 3) := by decide +kernel
theorem dL_law_621 : decode code 621 = .ok (.iconst 0, 1) := by decide +kernel
theorem dL_law_622 : decode code 622 = .ok (.ireturn, 1) := by decide +kernel
set_option maxRecDepth 100000 in
theorem law_c8 {z : ZZ} {x : XX} {Q : State → Prop} {k n : Nat} {ad : Nat → Nat} {b L i x0 m0 : Nat} {xs : Nat → Int32} {σ σ1 : MS} {τ τ1 : XS} {r : Int32} (hC : CX z ad x code RL 4 ret) (hR : x.2.2.1 = room_1) (hX : SX z x b L xs) (hx0 : ad 36 = x0) (hm0 : ad 0 = m0) (hi : i + 4 < L) (hk : k + 0 ≤ 600000 ∧ n + 0 ≤ 7302250) (hW : W_pay τ (xs (i + 1)) (xs (i + 2)) (xs (i + 3)) = some (r, τ1)) (hM : M_pay σ (xs (i + 1)) (xs (i + 2)) (xs (i + 3)) = some (r, σ1)) (kk : ∀ ad2, exL ad ad2 → AL z x 4 Q (k + 0 + 0) (n + 0 + 0) 2151 [(3, .int (Int32.ofNat i)), (1, .ref x0), (2, .ref m0), (0, .ref b)] [] (wX z σ1 ad2 τ1)) : AL z x 4 Q k n 580 [(3, .int (Int32.ofNat i)), (1, .ref x0), (2, .ref m0), (0, .ref b)] [] (wX z σ ad τ) := by
  refine al_aload_n (j := 1) hC rfl rfl dL_law_580 ?_
  refine al_aload_n (j := 3) hC rfl rfl dL_law_581 ?_
  refine al_iload_n (j := 0) hC rfl rfl dL_law_582 ?_
  refine al_iconst (v := 1) hC rfl dL_law_583 ?_
  refine al_iadd hC dL_law_584 ?_
  refine al_sld (j := i + 1) hC hX (Int32.ofNat_add i 1).symm (by omega) dL_law_585 ?_
  refine al_aload_n (j := 3) hC rfl rfl dL_law_586 ?_
  refine al_iload_n (j := 0) hC rfl rfl dL_law_587 ?_
  refine al_iconst (v := 2) hC rfl dL_law_588 ?_
  refine al_iadd hC dL_law_589 ?_
  refine al_sld (j := i + 2) hC hX (Int32.ofNat_add i 2).symm (by omega) dL_law_590 ?_
  refine al_aload_n (j := 3) hC rfl rfl dL_law_591 ?_
  refine al_iload_n (j := 0) hC rfl rfl dL_law_592 ?_
  refine al_iconst (v := 3) hC rfl dL_law_593 ?_
  refine al_iadd hC dL_law_594 ?_
  refine al_sld (j := i + 3) hC hX (Int32.ofNat_add i 3).symm (by omega) dL_law_595 ?_
  refine al_callL (w := wX z σ) (As := [.int (xs (i + 1)), .int (xs (i + 2)), .int (xs (i + 3))]) (rest := []) (s0 := τ) (s1 := τ1) (r0 := r) (q := 36) hC hR lkl_50 (c_W_pay τ (xs (i + 1)) (xs (i + 2)) (xs (i + 3))) hW (fun _ _ h => eqA.L h) dL_law_596 recX10 rfl rfl hx0 rfl ⟨by decide, by decide⟩ (Nat.le_of_ble_eq_true rfl) ⟨by omega, by omega⟩ ⟨_, rfl, fun _ => rfl⟩ (fun ad1 hE1 hC => ?_)
  have hm0 := (hE1 0 (by omega)).trans hm0
  show AL z x 4 Q (k + 0) (n + 0) _ _ _ (wM z τ1 ad1 σ)
  refine al_aload_n (j := 2) hC rfl rfl dL_law_599 ?_
  refine al_aload_n (j := 3) hC rfl rfl dL_law_600 ?_
  refine al_iload_n (j := 0) hC rfl rfl dL_law_601 ?_
  refine al_iconst (v := 1) hC rfl dL_law_602 ?_
  refine al_iadd hC dL_law_603 ?_
  refine al_sld (j := i + 1) hC hX (Int32.ofNat_add i 1).symm (by omega) dL_law_604 ?_
  refine al_aload_n (j := 3) hC rfl rfl dL_law_605 ?_
  refine al_iload_n (j := 0) hC rfl rfl dL_law_606 ?_
  refine al_iconst (v := 2) hC rfl dL_law_607 ?_
  refine al_iadd hC dL_law_608 ?_
  refine al_sld (j := i + 2) hC hX (Int32.ofNat_add i 2).symm (by omega) dL_law_609 ?_
  refine al_aload_n (j := 3) hC rfl rfl dL_law_610 ?_
  refine al_iload_n (j := 0) hC rfl rfl dL_law_611 ?_
  refine al_iconst (v := 3) hC rfl dL_law_612 ?_
  refine al_iadd hC dL_law_613 ?_
  refine al_sld (j := i + 3) hC hX (Int32.ofNat_add i 3).symm (by omega) dL_law_614 ?_
  refine al_callL (w := wM z τ1) (As := [.int (xs (i + 1)), .int (xs (i + 2)), .int (xs (i + 3))]) (rest := [.int r]) (s0 := σ) (s1 := σ1) (r0 := r) (q := 0) hC hR lkl_53 (c_M_pay σ (xs (i + 1)) (xs (i + 2)) (xs (i + 3))) hM (fun _ _ h => eqA.L h) dL_law_615 recX11 rfl rfl hm0 rfl ⟨by decide, by decide⟩ (Nat.le_of_ble_eq_true rfl) ⟨by omega, by omega⟩ ⟨_, rfl, fun _ => rfl⟩ (fun ad2 hE2 hC => ?_)
  show AL z x 4 Q _ _ _ _ _ (wX z σ1 ad2 τ1)
  refine al_icmp_eq (tgt := 2151) hC dL_law_618 rfl (fun _ => ?_) (fun g => absurd rfl g)
  exact kk ad2 (hE1.trans hE2)
theorem dL_law_623 : decode code 623 = .ok (.aload_n 1, 1) := by decide +kernel
theorem dL_law_624 : decode code 624 = .ok (.aload_n 0, 1) := by decide +kernel
theorem dL_law_625 : decode code 625 = .ok (.iload_n 3, 1) := by decide +kernel
theorem dL_law_626 : decode code 626 = .ok (.iconst 1, 1) := by decide +kernel
theorem dL_law_627 : decode code 627 = .ok (.iadd, 1) := by decide +kernel
theorem dL_law_628 : decode code 628 = .ok (.iaload, 1) := by decide +kernel
theorem dL_law_629 : decode code 629 = .ok (.invokevirtual 54, 3) := by decide +kernel
theorem dL_law_632 : decode code 632 = .ok (.aload_n 2, 1) := by decide +kernel
theorem dL_law_633 : decode code 633 = .ok (.aload_n 0, 1) := by decide +kernel
theorem dL_law_634 : decode code 634 = .ok (.iload_n 3, 1) := by decide +kernel
theorem dL_law_635 : decode code 635 = .ok (.iconst 1, 1) := by decide +kernel
theorem dL_law_636 : decode code 636 = .ok (.iadd, 1) := by decide +kernel
theorem dL_law_637 : decode code 637 = .ok (.iaload, 1) := by decide +kernel
theorem dL_law_638 : decode code 638 = .ok (.invokevirtual 57, 3) := by decide +kernel
theorem dL_law_641 : decode code 641 = .ok (.if_icmp .eq 1510, 3) := by decide +kernel
theorem dL_law_644 : decode code 644 = .ok (.iconst 0, 1) := by decide +kernel
theorem dL_law_645 : decode code 645 = .ok (.ireturn, 1) := by decide +kernel
set_option maxRecDepth 100000 in
theorem law_c9 {z : ZZ} {x : XX} {Q : State → Prop} {k n : Nat} {ad : Nat → Nat} {b L i x0 m0 : Nat} {xs : Nat → Int32} {σ σ1 : MS} {τ τ1 : XS} {r : Int32} (hC : CX z ad x code RL 4 ret) (hR : x.2.2.1 = room_1) (hX : SX z x b L xs) (hx0 : ad 36 = x0) (hm0 : ad 0 = m0) (hi : i + 4 < L) (hk : k + 0 ≤ 600000 ∧ n + 0 ≤ 7302250) (hW : W_strike τ (xs (i + 1)) = some (r, τ1)) (hM : M_strike σ (xs (i + 1)) = some (r, σ1)) (kk : ∀ ad2, exL ad ad2 → AL z x 4 Q (k + 0 + 0) (n + 0 + 0) 2151 [(3, .int (Int32.ofNat i)), (1, .ref x0), (2, .ref m0), (0, .ref b)] [] (wX z σ1 ad2 τ1)) : AL z x 4 Q k n 623 [(3, .int (Int32.ofNat i)), (1, .ref x0), (2, .ref m0), (0, .ref b)] [] (wX z σ ad τ) := by
  refine al_aload_n (j := 1) hC rfl rfl dL_law_623 ?_
  refine al_aload_n (j := 3) hC rfl rfl dL_law_624 ?_
  refine al_iload_n (j := 0) hC rfl rfl dL_law_625 ?_
  refine al_iconst (v := 1) hC rfl dL_law_626 ?_
  refine al_iadd hC dL_law_627 ?_
  refine al_sld (j := i + 1) hC hX (Int32.ofNat_add i 1).symm (by omega) dL_law_628 ?_
  refine al_callL (w := wX z σ) (As := [.int (xs (i + 1))]) (rest := []) (s0 := τ) (s1 := τ1) (r0 := r) (q := 36) hC hR lkl_54 (c_W_strike τ (xs (i + 1))) hW (fun _ _ h => eqA.L h) dL_law_629 recX10 rfl rfl hx0 rfl ⟨by decide, by decide⟩ (Nat.le_of_ble_eq_true rfl) ⟨by omega, by omega⟩ ⟨_, rfl, fun _ => rfl⟩ (fun ad1 hE1 hC => ?_)
  have hm0 := (hE1 0 (by omega)).trans hm0
  show AL z x 4 Q (k + 0) (n + 0) _ _ _ (wM z τ1 ad1 σ)
  refine al_aload_n (j := 2) hC rfl rfl dL_law_632 ?_
  refine al_aload_n (j := 3) hC rfl rfl dL_law_633 ?_
  refine al_iload_n (j := 0) hC rfl rfl dL_law_634 ?_
  refine al_iconst (v := 1) hC rfl dL_law_635 ?_
  refine al_iadd hC dL_law_636 ?_
  refine al_sld (j := i + 1) hC hX (Int32.ofNat_add i 1).symm (by omega) dL_law_637 ?_
  refine al_callL (w := wM z τ1) (As := [.int (xs (i + 1))]) (rest := [.int r]) (s0 := σ) (s1 := σ1) (r0 := r) (q := 0) hC hR lkl_57 (c_M_strike σ (xs (i + 1))) hM (fun _ _ h => eqA.L h) dL_law_638 recX11 rfl rfl hm0 rfl ⟨by decide, by decide⟩ (Nat.le_of_ble_eq_true rfl) ⟨by omega, by omega⟩ ⟨_, rfl, fun _ => rfl⟩ (fun ad2 hE2 hC => ?_)
  show AL z x 4 Q _ _ _ _ _ (wX z σ1 ad2 τ1)
  refine al_icmp_eq (tgt := 2151) hC dL_law_641 rfl (fun _ => ?_) (fun g => absurd rfl g)
  exact kk ad2 (hE1.trans hE2)
theorem dL_law_646 : decode code 646 = .ok (.aload_n 1, 1) := by decide +kernel
theorem dL_law_647 : decode code 647 = .ok (.aload_n 0, 1) := by decide +kernel
theorem dL_law_648 : decode code 648 = .ok (.iload_n 3, 1) := by decide +kernel
theorem dL_law_649 : decode code 649 = .ok (.iconst 1, 1) := by decide +kernel
theorem dL_law_650 : decode code 650 = .ok (.iadd, 1) := by decide +kernel
theorem dL_law_651 : decode code 651 = .ok (.iaload, 1) := by decide +kernel
theorem dL_law_652 : decode code 652 = .ok (.aload_n 0, 1) := by decide +kernel
theorem dL_law_653 : decode code 653 = .ok (.iload_n 3, 1) := by decide +kernel
theorem dL_law_654 : decode code 654 = .ok (.iconst 2, 1) := by decide +kernel
theorem dL_law_655 : decode code 655 = .ok (.iadd, 1) := by decide +kernel
theorem dL_law_656 : decode code 656 = .ok (.iaload, 1) := by decide +kernel
theorem dL_law_657 : decode code 657 = .ok (.invokevirtual 58, 3) := by decide +kernel
theorem dL_law_660 : decode code 660 = .ok (.aload_n 2, 1) := by decide +kernel
theorem dL_law_661 : decode code 661 = .ok (.aload_n 0, 1) := by decide +kernel
theorem dL_law_662 : decode code 662 = .ok (.iload_n 3, 1) := by decide +kernel
theorem dL_law_663 : decode code 663 = .ok (.iconst 1, 1) := by decide +kernel
theorem dL_law_664 : decode code 664 = .ok (.iadd, 1) := by decide +kernel
theorem dL_law_665 : decode code 665 = .ok (.iaload, 1) := by decide +kernel
theorem dL_law_666 : decode code 666 = .ok (.aload_n 0, 1) := by decide +kernel
theorem dL_law_667 : decode code 667 = .ok (.iload_n 3, 1) := by decide +kernel
theorem dL_law_668 : decode code 668 = .ok (.iconst 2, 1) := by decide +kernel
theorem dL_law_669 : decode code 669 = .ok (.iadd, 1) := by decide +kernel
theorem dL_law_670 : decode code 670 = .ok (.iaload, 1) := by decide +kernel
theorem dL_law_671 : decode code 671 = .ok (.invokevirtual 61, 3) := by decide +kernel
theorem dL_law_674 : decode code 674 = .ok (.if_icmp .eq 1477, 3) := by decide +kernel
theorem dL_law_677 : decode code 677 = .ok (.iconst 0, 1) := by decide +kernel
theorem dL_law_678 : decode code 678 = .ok (.ireturn, 1) := by decide +kernel
set_option maxRecDepth 100000 in
theorem law_c10 {z : ZZ} {x : XX} {Q : State → Prop} {k n : Nat} {ad : Nat → Nat} {b L i x0 m0 : Nat} {xs : Nat → Int32} {σ σ1 : MS} {τ τ1 : XS} {r : Int32} (hC : CX z ad x code RL 4 ret) (hR : x.2.2.1 = room_1) (hX : SX z x b L xs) (hx0 : ad 36 = x0) (hm0 : ad 0 = m0) (hi : i + 4 < L) (hk : k + 0 ≤ 600000 ∧ n + 0 ≤ 7302250) (eτ : τ1 = τ) (eσ : σ1 = σ) (hW : W_known τ (xs (i + 1)) (xs (i + 2)) = some r) (hM : M_known σ (xs (i + 1)) (xs (i + 2)) = some r) (kk : ∀ ad2, exL ad ad2 → AL z x 4 Q (k + 0 + 0) (n + 0 + 0) 2151 [(3, .int (Int32.ofNat i)), (1, .ref x0), (2, .ref m0), (0, .ref b)] [] (wX z σ1 ad2 τ1)) : AL z x 4 Q k n 646 [(3, .int (Int32.ofNat i)), (1, .ref x0), (2, .ref m0), (0, .ref b)] [] (wX z σ ad τ) := by
  subst eτ
  subst eσ
  refine al_aload_n (j := 1) hC rfl rfl dL_law_646 ?_
  refine al_aload_n (j := 3) hC rfl rfl dL_law_647 ?_
  refine al_iload_n (j := 0) hC rfl rfl dL_law_648 ?_
  refine al_iconst (v := 1) hC rfl dL_law_649 ?_
  refine al_iadd hC dL_law_650 ?_
  refine al_sld (j := i + 1) hC hX (Int32.ofNat_add i 1).symm (by omega) dL_law_651 ?_
  refine al_aload_n (j := 3) hC rfl rfl dL_law_652 ?_
  refine al_iload_n (j := 0) hC rfl rfl dL_law_653 ?_
  refine al_iconst (v := 2) hC rfl dL_law_654 ?_
  refine al_iadd hC dL_law_655 ?_
  refine al_sld (j := i + 2) hC hX (Int32.ofNat_add i 2).symm (by omega) dL_law_656 ?_
  refine al_callL (w := wX z σ) (As := [.int (xs (i + 1)), .int (xs (i + 2))]) (rest := []) (s0 := τ) (s1 := τ) (r0 := r) (q := 36) hC hR lkl_58 (c_W_known τ (xs (i + 1)) (xs (i + 2))) (by rw [hW]; rfl) (fun _ _ h => eqA.L h) dL_law_657 recX10 rfl rfl hx0 rfl ⟨by decide, by decide⟩ (Nat.le_of_ble_eq_true rfl) ⟨by omega, by omega⟩ ⟨_, rfl, fun _ => rfl⟩ (fun ad1 hE1 hC => ?_)
  have hm0 := (hE1 0 (by omega)).trans hm0
  show AL z x 4 Q (k + 0) (n + 0) _ _ _ (wM z τ1 ad1 σ)
  refine al_aload_n (j := 2) hC rfl rfl dL_law_660 ?_
  refine al_aload_n (j := 3) hC rfl rfl dL_law_661 ?_
  refine al_iload_n (j := 0) hC rfl rfl dL_law_662 ?_
  refine al_iconst (v := 1) hC rfl dL_law_663 ?_
  refine al_iadd hC dL_law_664 ?_
  refine al_sld (j := i + 1) hC hX (Int32.ofNat_add i 1).symm (by omega) dL_law_665 ?_
  refine al_aload_n (j := 3) hC rfl rfl dL_law_666 ?_
  refine al_iload_n (j := 0) hC rfl rfl dL_law_667 ?_
  refine al_iconst (v := 2) hC rfl dL_law_668 ?_
  refine al_iadd hC dL_law_669 ?_
  refine al_sld (j := i + 2) hC hX (Int32.ofNat_add i 2).symm (by omega) dL_law_670 ?_
  refine al_callL (w := wM z τ1) (As := [.int (xs (i + 1)), .int (xs (i + 2))]) (rest := [.int r]) (s0 := σ) (s1 := σ) (r0 := r) (q := 0) hC hR lkl_61 (c_M_known σ (xs (i + 1)) (xs (i + 2))) (by rw [hM]; rfl) (fun _ _ h => eqA.L h) dL_law_671 recX11 rfl rfl hm0 rfl ⟨by decide, by decide⟩ (Nat.le_of_ble_eq_true rfl) ⟨by omega, by omega⟩ ⟨_, rfl, fun _ => rfl⟩ (fun ad2 hE2 hC => ?_)
  show AL z x 4 Q _ _ _ _ _ (wX z σ1 ad2 τ1)
  refine al_icmp_eq (tgt := 2151) hC dL_law_674 rfl (fun _ => ?_) (fun g => absurd rfl g)
  exact kk ad2 (hE1.trans hE2)
theorem dL_law_679 : decode code 679 = .ok (.aload_n 1, 1) := by decide +kernel
theorem dL_law_680 : decode code 680 = .ok (.aload_n 0, 1) := by decide +kernel
theorem dL_law_681 : decode code 681 = .ok (.iload_n 3, 1) := by decide +kernel
theorem dL_law_682 : decode code 682 = .ok (.iconst 1, 1) := by decide +kernel
theorem dL_law_683 : decode code 683 = .ok (.iadd, 1) := by decide +kernel
theorem dL_law_684 : decode code 684 = .ok (.iaload, 1) := by decide +kernel
theorem dL_law_685 : decode code 685 = .ok (.aload_n 0, 1) := by decide +kernel
theorem dL_law_686 : decode code 686 = .ok (.iload_n 3, 1) := by decide +kernel
theorem dL_law_687 : decode code 687 = .ok (.iconst 2, 1) := by decide +kernel
theorem dL_law_688 : decode code 688 = .ok (.iadd, 1) := by decide +kernel
theorem dL_law_689 : decode code 689 = .ok (.iaload, 1) := by decide +kernel
theorem dL_law_690 : decode code 690 = .ok (.aload_n 0, 1) := by decide +kernel
theorem dL_law_691 : decode code 691 = .ok (.iload_n 3, 1) := by decide +kernel
theorem dL_law_692 : decode code 692 = .ok (.iconst 3, 1) := by decide +kernel
theorem dL_law_693 : decode code 693 = .ok (.iadd, 1) := by decide +kernel
theorem dL_law_694 : decode code 694 = .ok (.iaload, 1) := by decide +kernel
theorem dL_law_695 : decode code 695 = .ok (.invokevirtual 62, 3) := by decide +kernel
theorem dL_law_698 : decode code 698 = .ok (.aload_n 2, 1) := by decide +kernel
theorem dL_law_699 : decode code 699 = .ok (.aload_n 0, 1) := by decide +kernel
theorem dL_law_700 : decode code 700 = .ok (.iload_n 3, 1) := by decide +kernel
theorem dL_law_701 : decode code 701 = .ok (.iconst 1, 1) := by decide +kernel
theorem dL_law_702 : decode code 702 = .ok (.iadd, 1) := by decide +kernel
theorem dL_law_703 : decode code 703 = .ok (.iaload, 1) := by decide +kernel
theorem dL_law_704 : decode code 704 = .ok (.aload_n 0, 1) := by decide +kernel
theorem dL_law_705 : decode code 705 = .ok (.iload_n 3, 1) := by decide +kernel
theorem dL_law_706 : decode code 706 = .ok (.iconst 2, 1) := by decide +kernel
theorem dL_law_707 : decode code 707 = .ok (.iadd, 1) := by decide +kernel
theorem dL_law_708 : decode code 708 = .ok (.iaload, 1) := by decide +kernel
theorem dL_law_709 : decode code 709 = .ok (.aload_n 0, 1) := by decide +kernel
theorem dL_law_710 : decode code 710 = .ok (.iload_n 3, 1) := by decide +kernel
theorem dL_law_711 : decode code 711 = .ok (.iconst 3, 1) := by decide +kernel
theorem dL_law_712 : decode code 712 = .ok (.iadd, 1) := by decide +kernel
theorem dL_law_713 : decode code 713 = .ok (.iaload, 1) := by decide +kernel
theorem dL_law_714 : decode code 714 = .ok (.invokevirtual 65, 3) := by decide +kernel
theorem dL_law_717 : decode code 717 = .ok (.if_icmp .eq 1434, 3) := by decide +kernel
theorem dL_law_720 : decode code 720 = .ok (.iconst 0, 1) := by decide +kernel
theorem dL_law_721 : decode code 721 = .ok (.ireturn, 1) := by decide +kernel
set_option maxRecDepth 100000 in
theorem law_c11 {z : ZZ} {x : XX} {Q : State → Prop} {k n : Nat} {ad : Nat → Nat} {b L i x0 m0 : Nat} {xs : Nat → Int32} {σ σ1 : MS} {τ τ1 : XS} {r : Int32} (hC : CX z ad x code RL 4 ret) (hR : x.2.2.1 = room_1) (hX : SX z x b L xs) (hx0 : ad 36 = x0) (hm0 : ad 0 = m0) (hi : i + 4 < L) (hk : k + 0 ≤ 600000 ∧ n + 0 ≤ 7302250) (hW : W_as τ (xs (i + 1)) (xs (i + 2)) (xs (i + 3)) = some (r, τ1)) (hM : M_as σ (xs (i + 1)) (xs (i + 2)) (xs (i + 3)) = some (r, σ1)) (kk : ∀ ad2, exL ad ad2 → AL z x 4 Q (k + 0 + 0) (n + 0 + 0) 2151 [(3, .int (Int32.ofNat i)), (1, .ref x0), (2, .ref m0), (0, .ref b)] [] (wX z σ1 ad2 τ1)) : AL z x 4 Q k n 679 [(3, .int (Int32.ofNat i)), (1, .ref x0), (2, .ref m0), (0, .ref b)] [] (wX z σ ad τ) := by
  refine al_aload_n (j := 1) hC rfl rfl dL_law_679 ?_
  refine al_aload_n (j := 3) hC rfl rfl dL_law_680 ?_
  refine al_iload_n (j := 0) hC rfl rfl dL_law_681 ?_
  refine al_iconst (v := 1) hC rfl dL_law_682 ?_
  refine al_iadd hC dL_law_683 ?_
  refine al_sld (j := i + 1) hC hX (Int32.ofNat_add i 1).symm (by omega) dL_law_684 ?_
  refine al_aload_n (j := 3) hC rfl rfl dL_law_685 ?_
  refine al_iload_n (j := 0) hC rfl rfl dL_law_686 ?_
  refine al_iconst (v := 2) hC rfl dL_law_687 ?_
  refine al_iadd hC dL_law_688 ?_
  refine al_sld (j := i + 2) hC hX (Int32.ofNat_add i 2).symm (by omega) dL_law_689 ?_
  refine al_aload_n (j := 3) hC rfl rfl dL_law_690 ?_
  refine al_iload_n (j := 0) hC rfl rfl dL_law_691 ?_
  refine al_iconst (v := 3) hC rfl dL_law_692 ?_
  refine al_iadd hC dL_law_693 ?_
  refine al_sld (j := i + 3) hC hX (Int32.ofNat_add i 3).symm (by omega) dL_law_694 ?_
  refine al_callL (w := wX z σ) (As := [.int (xs (i + 1)), .int (xs (i + 2)), .int (xs (i + 3))]) (rest := []) (s0 := τ) (s1 := τ1) (r0 := r) (q := 36) hC hR lkl_62 (c_W_as τ (xs (i + 1)) (xs (i + 2)) (xs (i + 3))) hW (fun _ _ h => eqA.L h) dL_law_695 recX10 rfl rfl hx0 rfl ⟨by decide, by decide⟩ (Nat.le_of_ble_eq_true rfl) ⟨by omega, by omega⟩ ⟨_, rfl, fun _ => rfl⟩ (fun ad1 hE1 hC => ?_)
  have hm0 := (hE1 0 (by omega)).trans hm0
  show AL z x 4 Q (k + 0) (n + 0) _ _ _ (wM z τ1 ad1 σ)
  refine al_aload_n (j := 2) hC rfl rfl dL_law_698 ?_
  refine al_aload_n (j := 3) hC rfl rfl dL_law_699 ?_
  refine al_iload_n (j := 0) hC rfl rfl dL_law_700 ?_
  refine al_iconst (v := 1) hC rfl dL_law_701 ?_
  refine al_iadd hC dL_law_702 ?_
  refine al_sld (j := i + 1) hC hX (Int32.ofNat_add i 1).symm (by omega) dL_law_703 ?_
  refine al_aload_n (j := 3) hC rfl rfl dL_law_704 ?_
  refine al_iload_n (j := 0) hC rfl rfl dL_law_705 ?_
  refine al_iconst (v := 2) hC rfl dL_law_706 ?_
  refine al_iadd hC dL_law_707 ?_
  refine al_sld (j := i + 2) hC hX (Int32.ofNat_add i 2).symm (by omega) dL_law_708 ?_
  refine al_aload_n (j := 3) hC rfl rfl dL_law_709 ?_
  refine al_iload_n (j := 0) hC rfl rfl dL_law_710 ?_
  refine al_iconst (v := 3) hC rfl dL_law_711 ?_
  refine al_iadd hC dL_law_712 ?_
  refine al_sld (j := i + 3) hC hX (Int32.ofNat_add i 3).symm (by omega) dL_law_713 ?_
  refine al_callL (w := wM z τ1) (As := [.int (xs (i + 1)), .int (xs (i + 2)), .int (xs (i + 3))]) (rest := [.int r]) (s0 := σ) (s1 := σ1) (r0 := r) (q := 0) hC hR lkl_65 (c_M_as σ (xs (i + 1)) (xs (i + 2)) (xs (i + 3))) hM (fun _ _ h => eqA.L h) dL_law_714 recX11 rfl rfl hm0 rfl ⟨by decide, by decide⟩ (Nat.le_of_ble_eq_true rfl) ⟨by omega, by omega⟩ ⟨_, rfl, fun _ => rfl⟩ (fun ad2 hE2 hC => ?_)
  show AL z x 4 Q _ _ _ _ _ (wX z σ1 ad2 τ1)
  refine al_icmp_eq (tgt := 2151) hC dL_law_717 rfl (fun _ => ?_) (fun g => absurd rfl g)
  exact kk ad2 (hE1.trans hE2)
theorem dL_law_722 : decode code 722 = .ok (.aload_n 1, 1) := by decide +kernel
theorem dL_law_723 : decode code 723 = .ok (.aload_n 0, 1) := by decide +kernel
theorem dL_law_724 : decode code 724 = .ok (.iload_n 3, 1) := by decide +kernel
theorem dL_law_725 : decode code 725 = .ok (.iconst 1, 1) := by decide +kernel
theorem dL_law_726 : decode code 726 = .ok (.iadd, 1) := by decide +kernel
theorem dL_law_727 : decode code 727 = .ok (.iaload, 1) := by decide +kernel
theorem dL_law_728 : decode code 728 = .ok (.aload_n 0, 1) := by decide +kernel
theorem dL_law_729 : decode code 729 = .ok (.iload_n 3, 1) := by decide +kernel
theorem dL_law_730 : decode code 730 = .ok (.iconst 2, 1) := by decide +kernel
theorem dL_law_731 : decode code 731 = .ok (.iadd, 1) := by decide +kernel
theorem dL_law_732 : decode code 732 = .ok (.iaload, 1) := by decide +kernel
theorem dL_law_733 : decode code 733 = .ok (.aload_n 0, 1) := by decide +kernel
theorem dL_law_734 : decode code 734 = .ok (.iload_n 3, 1) := by decide +kernel
theorem dL_law_735 : decode code 735 = .ok (.iconst 3, 1) := by decide +kernel
theorem dL_law_736 : decode code 736 = .ok (.iadd, 1) := by decide +kernel
theorem dL_law_737 : decode code 737 = .ok (.iaload, 1) := by decide +kernel
theorem dL_law_738 : decode code 738 = .ok (.aload_n 0, 1) := by decide +kernel
theorem dL_law_739 : decode code 739 = .ok (.iload_n 3, 1) := by decide +kernel
theorem dL_law_740 : decode code 740 = .ok (.iconst 4, 1) := by decide +kernel
theorem dL_law_741 : decode code 741 = .ok (.iadd, 1) := by decide +kernel
theorem dL_law_742 : decode code 742 = .ok (.iaload, 1) := by decide +kernel
theorem dL_law_743 : decode code 743 = .ok (.invokevirtual 66, 3) := by decide +kernel
theorem dL_law_746 : decode code 746 = .ok (.aload_n 2, 1) := by decide +kernel
theorem dL_law_747 : decode code 747 = .ok (.aload_n 0, 1) := by decide +kernel
theorem dL_law_748 : decode code 748 = .ok (.iload_n 3, 1) := by decide +kernel
theorem dL_law_749 : decode code 749 = .ok (.iconst 1, 1) := by decide +kernel
theorem dL_law_750 : decode code 750 = .ok (.iadd, 1) := by decide +kernel
theorem dL_law_751 : decode code 751 = .ok (.iaload, 1) := by decide +kernel
theorem dL_law_752 : decode code 752 = .ok (.aload_n 0, 1) := by decide +kernel
theorem dL_law_753 : decode code 753 = .ok (.iload_n 3, 1) := by decide +kernel
theorem dL_law_754 : decode code 754 = .ok (.iconst 2, 1) := by decide +kernel
theorem dL_law_755 : decode code 755 = .ok (.iadd, 1) := by decide +kernel
theorem dL_law_756 : decode code 756 = .ok (.iaload, 1) := by decide +kernel
theorem dL_law_757 : decode code 757 = .ok (.aload_n 0, 1) := by decide +kernel
theorem dL_law_758 : decode code 758 = .ok (.iload_n 3, 1) := by decide +kernel
theorem dL_law_759 : decode code 759 = .ok (.iconst 3, 1) := by decide +kernel
theorem dL_law_760 : decode code 760 = .ok (.iadd, 1) := by decide +kernel
theorem dL_law_761 : decode code 761 = .ok (.iaload, 1) := by decide +kernel
theorem dL_law_762 : decode code 762 = .ok (.aload_n 0, 1) := by decide +kernel
theorem dL_law_763 : decode code 763 = .ok (.iload_n 3, 1) := by decide +kernel
theorem dL_law_764 : decode code 764 = .ok (.iconst 4, 1) := by decide +kernel
theorem dL_law_765 : decode code 765 = .ok (.iadd, 1) := by decide +kernel
theorem dL_law_766 : decode code 766 = .ok (.iaload, 1) := by decide +kernel
theorem dL_law_767 : decode code 767 = .ok (.invokevirtual 69, 3) := by decide +kernel
theorem dL_law_770 : decode code 770 = .ok (.if_icmp .eq 1381, 3) := by decide +kernel
theorem dL_law_773 : decode code 773 = .ok (.iconst 0, 1) := by decide +kernel
theorem dL_law_774 : decode code 774 = .ok (.ireturn, 1) := by decide +kernel
set_option maxRecDepth 100000 in
theorem law_c12 {z : ZZ} {x : XX} {Q : State → Prop} {k n : Nat} {ad : Nat → Nat} {b L i x0 m0 : Nat} {xs : Nat → Int32} {σ σ1 : MS} {τ τ1 : XS} {r : Int32} (hC : CX z ad x code RL 4 ret) (hR : x.2.2.1 = room_1) (hX : SX z x b L xs) (hx0 : ad 36 = x0) (hm0 : ad 0 = m0) (hi : i + 4 < L) (hk : k + 0 ≤ 600000 ∧ n + 0 ≤ 7302250) (hW : W_live τ (xs (i + 1)) (xs (i + 2)) (xs (i + 3)) (xs (i + 4)) = some (r, τ1)) (hM : M_live σ (xs (i + 1)) (xs (i + 2)) (xs (i + 3)) (xs (i + 4)) = some (r, σ1)) (kk : ∀ ad2, exL ad ad2 → AL z x 4 Q (k + 0 + 0) (n + 0 + 0) 2151 [(3, .int (Int32.ofNat i)), (1, .ref x0), (2, .ref m0), (0, .ref b)] [] (wX z σ1 ad2 τ1)) : AL z x 4 Q k n 722 [(3, .int (Int32.ofNat i)), (1, .ref x0), (2, .ref m0), (0, .ref b)] [] (wX z σ ad τ) := by
  refine al_aload_n (j := 1) hC rfl rfl dL_law_722 ?_
  refine al_aload_n (j := 3) hC rfl rfl dL_law_723 ?_
  refine al_iload_n (j := 0) hC rfl rfl dL_law_724 ?_
  refine al_iconst (v := 1) hC rfl dL_law_725 ?_
  refine al_iadd hC dL_law_726 ?_
  refine al_sld (j := i + 1) hC hX (Int32.ofNat_add i 1).symm (by omega) dL_law_727 ?_
  refine al_aload_n (j := 3) hC rfl rfl dL_law_728 ?_
  refine al_iload_n (j := 0) hC rfl rfl dL_law_729 ?_
  refine al_iconst (v := 2) hC rfl dL_law_730 ?_
  refine al_iadd hC dL_law_731 ?_
  refine al_sld (j := i + 2) hC hX (Int32.ofNat_add i 2).symm (by omega) dL_law_732 ?_
  refine al_aload_n (j := 3) hC rfl rfl dL_law_733 ?_
  refine al_iload_n (j := 0) hC rfl rfl dL_law_734 ?_
  refine al_iconst (v := 3) hC rfl dL_law_735 ?_
  refine al_iadd hC dL_law_736 ?_
  refine al_sld (j := i + 3) hC hX (Int32.ofNat_add i 3).symm (by omega) dL_law_737 ?_
  refine al_aload_n (j := 3) hC rfl rfl dL_law_738 ?_
  refine al_iload_n (j := 0) hC rfl rfl dL_law_739 ?_
  refine al_iconst (v := 4) hC rfl dL_law_740 ?_
  refine al_iadd hC dL_law_741 ?_
  refine al_sld (j := i + 4) hC hX (Int32.ofNat_add i 4).symm (by omega) dL_law_742 ?_
  refine al_callL (w := wX z σ) (As := [.int (xs (i + 1)), .int (xs (i + 2)), .int (xs (i + 3)), .int (xs (i + 4))]) (rest := []) (s0 := τ) (s1 := τ1) (r0 := r) (q := 36) hC hR lkl_66 (c_W_live τ (xs (i + 1)) (xs (i + 2)) (xs (i + 3)) (xs (i + 4))) hW (fun _ _ h => eqA.L h) dL_law_743 recX10 rfl rfl hx0 rfl ⟨by decide, by decide⟩ (Nat.le_of_ble_eq_true rfl) ⟨by omega, by omega⟩ ⟨_, rfl, fun _ => rfl⟩ (fun ad1 hE1 hC => ?_)
  have hm0 := (hE1 0 (by omega)).trans hm0
  show AL z x 4 Q (k + 0) (n + 0) _ _ _ (wM z τ1 ad1 σ)
  refine al_aload_n (j := 2) hC rfl rfl dL_law_746 ?_
  refine al_aload_n (j := 3) hC rfl rfl dL_law_747 ?_
  refine al_iload_n (j := 0) hC rfl rfl dL_law_748 ?_
  refine al_iconst (v := 1) hC rfl dL_law_749 ?_
  refine al_iadd hC dL_law_750 ?_
  refine al_sld (j := i + 1) hC hX (Int32.ofNat_add i 1).symm (by omega) dL_law_751 ?_
  refine al_aload_n (j := 3) hC rfl rfl dL_law_752 ?_
  refine al_iload_n (j := 0) hC rfl rfl dL_law_753 ?_
  refine al_iconst (v := 2) hC rfl dL_law_754 ?_
  refine al_iadd hC dL_law_755 ?_
  refine al_sld (j := i + 2) hC hX (Int32.ofNat_add i 2).symm (by omega) dL_law_756 ?_
  refine al_aload_n (j := 3) hC rfl rfl dL_law_757 ?_
  refine al_iload_n (j := 0) hC rfl rfl dL_law_758 ?_
  refine al_iconst (v := 3) hC rfl dL_law_759 ?_
  refine al_iadd hC dL_law_760 ?_
  refine al_sld (j := i + 3) hC hX (Int32.ofNat_add i 3).symm (by omega) dL_law_761 ?_
  refine al_aload_n (j := 3) hC rfl rfl dL_law_762 ?_
  refine al_iload_n (j := 0) hC rfl rfl dL_law_763 ?_
  refine al_iconst (v := 4) hC rfl dL_law_764 ?_
  refine al_iadd hC dL_law_765 ?_
  refine al_sld (j := i + 4) hC hX (Int32.ofNat_add i 4).symm (by omega) dL_law_766 ?_
  refine al_callL (w := wM z τ1) (As := [.int (xs (i + 1)), .int (xs (i + 2)), .int (xs (i + 3)), .int (xs (i + 4))]) (rest := [.int r]) (s0 := σ) (s1 := σ1) (r0 := r) (q := 0) hC hR lkl_69 (c_M_live σ (xs (i + 1)) (xs (i + 2)) (xs (i + 3)) (xs (i + 4))) hM (fun _ _ h => eqA.L h) dL_law_767 recX11 rfl rfl hm0 rfl ⟨by decide, by decide⟩ (Nat.le_of_ble_eq_true rfl) ⟨by omega, by omega⟩ ⟨_, rfl, fun _ => rfl⟩ (fun ad2 hE2 hC => ?_)
  show AL z x 4 Q _ _ _ _ _ (wX z σ1 ad2 τ1)
  refine al_icmp_eq (tgt := 2151) hC dL_law_770 rfl (fun _ => ?_) (fun g => absurd rfl g)
  exact kk ad2 (hE1.trans hE2)
theorem dL_law_775 : decode code 775 = .ok (.aload_n 1, 1) := by decide +kernel
theorem dL_law_776 : decode code 776 = .ok (.aload_n 0, 1) := by decide +kernel
theorem dL_law_777 : decode code 777 = .ok (.iload_n 3, 1) := by decide +kernel
theorem dL_law_778 : decode code 778 = .ok (.iconst 1, 1) := by decide +kernel
theorem dL_law_779 : decode code 779 = .ok (.iadd, 1) := by decide +kernel
theorem dL_law_780 : decode code 780 = .ok (.iaload, 1) := by decide +kernel
theorem dL_law_781 : decode code 781 = .ok (.aload_n 0, 1) := by decide +kernel
theorem dL_law_782 : decode code 782 = .ok (.iload_n 3, 1) := by decide +kernel
theorem dL_law_783 : decode code 783 = .ok (.iconst 2, 1) := by decide +kernel
theorem dL_law_784 : decode code 784 = .ok (.iadd, 1) := by decide +kernel
theorem dL_law_785 : decode code 785 = .ok (.iaload, 1) := by decide +kernel
theorem dL_law_786 : decode code 786 = .ok (.aload_n 0, 1) := by decide +kernel
theorem dL_law_787 : decode code 787 = .ok (.iload_n 3, 1) := by decide +kernel
theorem dL_law_788 : decode code 788 = .ok (.iconst 3, 1) := by decide +kernel
theorem dL_law_789 : decode code 789 = .ok (.iadd, 1) := by decide +kernel
theorem dL_law_790 : decode code 790 = .ok (.iaload, 1) := by decide +kernel
theorem dL_law_791 : decode code 791 = .ok (.aload_n 0, 1) := by decide +kernel
theorem dL_law_792 : decode code 792 = .ok (.iload_n 3, 1) := by decide +kernel
theorem dL_law_793 : decode code 793 = .ok (.iconst 4, 1) := by decide +kernel
theorem dL_law_794 : decode code 794 = .ok (.iadd, 1) := by decide +kernel
theorem dL_law_795 : decode code 795 = .ok (.iaload, 1) := by decide +kernel
theorem dL_law_796 : decode code 796 = .ok (.invokevirtual 70, 3) := by decide +kernel
theorem dL_law_799 : decode code 799 = .ok (.aload_n 2, 1) := by decide +kernel
theorem dL_law_800 : decode code 800 = .ok (.aload_n 0, 1) := by decide +kernel
theorem dL_law_801 : decode code 801 = .ok (.iload_n 3, 1) := by decide +kernel
theorem dL_law_802 : decode code 802 = .ok (.iconst 1, 1) := by decide +kernel
theorem dL_law_803 : decode code 803 = .ok (.iadd, 1) := by decide +kernel
theorem dL_law_804 : decode code 804 = .ok (.iaload, 1) := by decide +kernel
theorem dL_law_805 : decode code 805 = .ok (.aload_n 0, 1) := by decide +kernel
theorem dL_law_806 : decode code 806 = .ok (.iload_n 3, 1) := by decide +kernel
theorem dL_law_807 : decode code 807 = .ok (.iconst 2, 1) := by decide +kernel
theorem dL_law_808 : decode code 808 = .ok (.iadd, 1) := by decide +kernel
theorem dL_law_809 : decode code 809 = .ok (.iaload, 1) := by decide +kernel
theorem dL_law_810 : decode code 810 = .ok (.aload_n 0, 1) := by decide +kernel
theorem dL_law_811 : decode code 811 = .ok (.iload_n 3, 1) := by decide +kernel
theorem dL_law_812 : decode code 812 = .ok (.iconst 3, 1) := by decide +kernel
theorem dL_law_813 : decode code 813 = .ok (.iadd, 1) := by decide +kernel
theorem dL_law_814 : decode code 814 = .ok (.iaload, 1) := by decide +kernel
theorem dL_law_815 : decode code 815 = .ok (.aload_n 0, 1) := by decide +kernel
theorem dL_law_816 : decode code 816 = .ok (.iload_n 3, 1) := by decide +kernel
theorem dL_law_817 : decode code 817 = .ok (.iconst 4, 1) := by decide +kernel
theorem dL_law_818 : decode code 818 = .ok (.iadd, 1) := by decide +kernel
theorem dL_law_819 : decode code 819 = .ok (.iaload, 1) := by decide +kernel
theorem dL_law_820 : decode code 820 = .ok (.invokevirtual 73, 3) := by decide +kernel
theorem dL_law_823 : decode code 823 = .ok (.if_icmp .eq 1328, 3) := by decide +kernel
theorem dL_law_826 : decode code 826 = .ok (.iconst 0, 1) := by decide +kernel
theorem dL_law_827 : decode code 827 = .ok (.ireturn, 1) := by decide +kernel
set_option maxRecDepth 100000 in
theorem law_c13 {z : ZZ} {x : XX} {Q : State → Prop} {k n : Nat} {ad : Nat → Nat} {b L i x0 m0 : Nat} {xs : Nat → Int32} {σ σ1 : MS} {τ τ1 : XS} {r : Int32} (hC : CX z ad x code RL 4 ret) (hR : x.2.2.1 = room_1) (hX : SX z x b L xs) (hx0 : ad 36 = x0) (hm0 : ad 0 = m0) (hi : i + 4 < L) (hk : k + 0 ≤ 600000 ∧ n + 0 ≤ 7302250) (hW : W_part τ (xs (i + 1)) (xs (i + 2)) (xs (i + 3)) (xs (i + 4)) = some (r, τ1)) (hM : M_part σ (xs (i + 1)) (xs (i + 2)) (xs (i + 3)) (xs (i + 4)) = some (r, σ1)) (kk : ∀ ad2, exL ad ad2 → AL z x 4 Q (k + 0 + 0) (n + 0 + 0) 2151 [(3, .int (Int32.ofNat i)), (1, .ref x0), (2, .ref m0), (0, .ref b)] [] (wX z σ1 ad2 τ1)) : AL z x 4 Q k n 775 [(3, .int (Int32.ofNat i)), (1, .ref x0), (2, .ref m0), (0, .ref b)] [] (wX z σ ad τ) := by
  refine al_aload_n (j := 1) hC rfl rfl dL_law_775 ?_
  refine al_aload_n (j := 3) hC rfl rfl dL_law_776 ?_
  refine al_iload_n (j := 0) hC rfl rfl dL_law_777 ?_
  refine al_iconst (v := 1) hC rfl dL_law_778 ?_
  refine al_iadd hC dL_law_779 ?_
  refine al_sld (j := i + 1) hC hX (Int32.ofNat_add i 1).symm (by omega) dL_law_780 ?_
  refine al_aload_n (j := 3) hC rfl rfl dL_law_781 ?_
  refine al_iload_n (j := 0) hC rfl rfl dL_law_782 ?_
  refine al_iconst (v := 2) hC rfl dL_law_783 ?_
  refine al_iadd hC dL_law_784 ?_
  refine al_sld (j := i + 2) hC hX (Int32.ofNat_add i 2).symm (by omega) dL_law_785 ?_
  refine al_aload_n (j := 3) hC rfl rfl dL_law_786 ?_
  refine al_iload_n (j := 0) hC rfl rfl dL_law_787 ?_
  refine al_iconst (v := 3) hC rfl dL_law_788 ?_
  refine al_iadd hC dL_law_789 ?_
  refine al_sld (j := i + 3) hC hX (Int32.ofNat_add i 3).symm (by omega) dL_law_790 ?_
  refine al_aload_n (j := 3) hC rfl rfl dL_law_791 ?_
  refine al_iload_n (j := 0) hC rfl rfl dL_law_792 ?_
  refine al_iconst (v := 4) hC rfl dL_law_793 ?_
  refine al_iadd hC dL_law_794 ?_
  refine al_sld (j := i + 4) hC hX (Int32.ofNat_add i 4).symm (by omega) dL_law_795 ?_
  refine al_callL (w := wX z σ) (As := [.int (xs (i + 1)), .int (xs (i + 2)), .int (xs (i + 3)), .int (xs (i + 4))]) (rest := []) (s0 := τ) (s1 := τ1) (r0 := r) (q := 36) hC hR lkl_70 (c_W_part τ (xs (i + 1)) (xs (i + 2)) (xs (i + 3)) (xs (i + 4))) hW (fun _ _ h => eqA.L h) dL_law_796 recX10 rfl rfl hx0 rfl ⟨by decide, by decide⟩ (Nat.le_of_ble_eq_true rfl) ⟨by omega, by omega⟩ ⟨_, rfl, fun _ => rfl⟩ (fun ad1 hE1 hC => ?_)
  have hm0 := (hE1 0 (by omega)).trans hm0
  show AL z x 4 Q (k + 0) (n + 0) _ _ _ (wM z τ1 ad1 σ)
  refine al_aload_n (j := 2) hC rfl rfl dL_law_799 ?_
  refine al_aload_n (j := 3) hC rfl rfl dL_law_800 ?_
  refine al_iload_n (j := 0) hC rfl rfl dL_law_801 ?_
  refine al_iconst (v := 1) hC rfl dL_law_802 ?_
  refine al_iadd hC dL_law_803 ?_
  refine al_sld (j := i + 1) hC hX (Int32.ofNat_add i 1).symm (by omega) dL_law_804 ?_
  refine al_aload_n (j := 3) hC rfl rfl dL_law_805 ?_
  refine al_iload_n (j := 0) hC rfl rfl dL_law_806 ?_
  refine al_iconst (v := 2) hC rfl dL_law_807 ?_
  refine al_iadd hC dL_law_808 ?_
  refine al_sld (j := i + 2) hC hX (Int32.ofNat_add i 2).symm (by omega) dL_law_809 ?_
  refine al_aload_n (j := 3) hC rfl rfl dL_law_810 ?_
  refine al_iload_n (j := 0) hC rfl rfl dL_law_811 ?_
  refine al_iconst (v := 3) hC rfl dL_law_812 ?_
  refine al_iadd hC dL_law_813 ?_
  refine al_sld (j := i + 3) hC hX (Int32.ofNat_add i 3).symm (by omega) dL_law_814 ?_
  refine al_aload_n (j := 3) hC rfl rfl dL_law_815 ?_
  refine al_iload_n (j := 0) hC rfl rfl dL_law_816 ?_
  refine al_iconst (v := 4) hC rfl dL_law_817 ?_
  refine al_iadd hC dL_law_818 ?_
  refine al_sld (j := i + 4) hC hX (Int32.ofNat_add i 4).symm (by omega) dL_law_819 ?_
  refine al_callL (w := wM z τ1) (As := [.int (xs (i + 1)), .int (xs (i + 2)), .int (xs (i + 3)), .int (xs (i + 4))]) (rest := [.int r]) (s0 := σ) (s1 := σ1) (r0 := r) (q := 0) hC hR lkl_73 (c_M_part σ (xs (i + 1)) (xs (i + 2)) (xs (i + 3)) (xs (i + 4))) hM (fun _ _ h => eqA.L h) dL_law_820 recX11 rfl rfl hm0 rfl ⟨by decide, by decide⟩ (Nat.le_of_ble_eq_true rfl) ⟨by omega, by omega⟩ ⟨_, rfl, fun _ => rfl⟩ (fun ad2 hE2 hC => ?_)
  show AL z x 4 Q _ _ _ _ _ (wX z σ1 ad2 τ1)
  refine al_icmp_eq (tgt := 2151) hC dL_law_823 rfl (fun _ => ?_) (fun g => absurd rfl g)
  exact kk ad2 (hE1.trans hE2)
theorem dL_law_828 : decode code 828 = .ok (.aload_n 1, 1) := by decide +kernel
theorem dL_law_829 : decode code 829 = .ok (.aload_n 0, 1) := by decide +kernel
theorem dL_law_830 : decode code 830 = .ok (.iload_n 3, 1) := by decide +kernel
theorem dL_law_831 : decode code 831 = .ok (.iconst 1, 1) := by decide +kernel
theorem dL_law_832 : decode code 832 = .ok (.iadd, 1) := by decide +kernel
theorem dL_law_833 : decode code 833 = .ok (.iaload, 1) := by decide +kernel
theorem dL_law_834 : decode code 834 = .ok (.i2l, 1) := by decide +kernel
theorem dL_law_835 : decode code 835 = .ok (.bipush 32, 2) := by decide +kernel
theorem dL_law_837 : decode code 837 = .ok (.lshl, 1) := by decide +kernel
theorem dL_law_838 : decode code 838 = .ok (.aload_n 0, 1) := by decide +kernel
theorem dL_law_839 : decode code 839 = .ok (.iload_n 3, 1) := by decide +kernel
theorem dL_law_840 : decode code 840 = .ok (.iconst 2, 1) := by decide +kernel
theorem dL_law_841 : decode code 841 = .ok (.iadd, 1) := by decide +kernel
theorem dL_law_842 : decode code 842 = .ok (.iaload, 1) := by decide +kernel
theorem dL_law_843 : decode code 843 = .ok (.i2l, 1) := by decide +kernel
theorem dL_law_844 : decode code 844 = .ok (.ldc2_w 74, 3) := by decide +kernel
theorem dL_law_847 : decode code 847 = .ok (.land, 1) := by decide +kernel
theorem dL_law_848 : decode code 848 = .ok (.lor, 1) := by decide +kernel
theorem dL_law_849 : decode code 849 = .ok (.aload_n 0, 1) := by decide +kernel
theorem dL_law_850 : decode code 850 = .ok (.iload_n 3, 1) := by decide +kernel
theorem dL_law_851 : decode code 851 = .ok (.iconst 3, 1) := by decide +kernel
theorem dL_law_852 : decode code 852 = .ok (.iadd, 1) := by decide +kernel
theorem dL_law_853 : decode code 853 = .ok (.iaload, 1) := by decide +kernel
theorem dL_law_854 : decode code 854 = .ok (.invokevirtual 76, 3) := by decide +kernel
theorem dL_law_857 : decode code 857 = .ok (.aload_n 2, 1) := by decide +kernel
theorem dL_law_858 : decode code 858 = .ok (.aload_n 0, 1) := by decide +kernel
theorem dL_law_859 : decode code 859 = .ok (.iload_n 3, 1) := by decide +kernel
theorem dL_law_860 : decode code 860 = .ok (.iconst 1, 1) := by decide +kernel
theorem dL_law_861 : decode code 861 = .ok (.iadd, 1) := by decide +kernel
theorem dL_law_862 : decode code 862 = .ok (.iaload, 1) := by decide +kernel
theorem dL_law_863 : decode code 863 = .ok (.i2l, 1) := by decide +kernel
theorem dL_law_864 : decode code 864 = .ok (.bipush 32, 2) := by decide +kernel
theorem dL_law_866 : decode code 866 = .ok (.lshl, 1) := by decide +kernel
theorem dL_law_867 : decode code 867 = .ok (.aload_n 0, 1) := by decide +kernel
theorem dL_law_868 : decode code 868 = .ok (.iload_n 3, 1) := by decide +kernel
theorem dL_law_869 : decode code 869 = .ok (.iconst 2, 1) := by decide +kernel
theorem dL_law_870 : decode code 870 = .ok (.iadd, 1) := by decide +kernel
theorem dL_law_871 : decode code 871 = .ok (.iaload, 1) := by decide +kernel
theorem dL_law_872 : decode code 872 = .ok (.i2l, 1) := by decide +kernel
theorem dL_law_873 : decode code 873 = .ok (.ldc2_w 74, 3) := by decide +kernel
theorem dL_law_876 : decode code 876 = .ok (.land, 1) := by decide +kernel
theorem dL_law_877 : decode code 877 = .ok (.lor, 1) := by decide +kernel
theorem dL_law_878 : decode code 878 = .ok (.aload_n 0, 1) := by decide +kernel
theorem dL_law_879 : decode code 879 = .ok (.iload_n 3, 1) := by decide +kernel
theorem dL_law_880 : decode code 880 = .ok (.iconst 3, 1) := by decide +kernel
theorem dL_law_881 : decode code 881 = .ok (.iadd, 1) := by decide +kernel
theorem dL_law_882 : decode code 882 = .ok (.iaload, 1) := by decide +kernel
theorem dL_law_883 : decode code 883 = .ok (.invokevirtual 80, 3) := by decide +kernel
theorem dL_law_886 : decode code 886 = .ok (.if_icmp .eq 1265, 3) := by decide +kernel
theorem dL_law_889 : decode code 889 = .ok (.iconst 0, 1) := by decide +kernel
theorem dL_law_890 : decode code 890 = .ok (.ireturn, 1) := by decide +kernel
set_option maxRecDepth 100000 in
theorem law_c14 {z : ZZ} {x : XX} {Q : State → Prop} {k n : Nat} {ad : Nat → Nat} {b L i x0 m0 : Nat} {xs : Nat → Int32} {σ σ1 : MS} {τ τ1 : XS} {r : Int32} (hC : CX z ad x code RL 4 ret) (hR : x.2.2.1 = room_1) (hX : SX z x b L xs) (hx0 : ad 36 = x0) (hm0 : ad 0 = m0) (hi : i + 4 < L) (hk : k + 0 ≤ 600000 ∧ n + 0 ≤ 7302250) (hW : W_feed τ ((((xs (i + 1))).toInt64 <<< ((32 : Int32).toInt64 &&& 63)) ||| (((xs (i + 2))).toInt64 &&& (4294967295))) (xs (i + 3)) = some (r, τ1)) (hM : M_feed σ ((((xs (i + 1))).toInt64 <<< ((32 : Int32).toInt64 &&& 63)) ||| (((xs (i + 2))).toInt64 &&& (4294967295))) (xs (i + 3)) = some (r, σ1)) (kk : ∀ ad2, exL ad ad2 → AL z x 4 Q (k + 0 + 0) (n + 0 + 0) 2151 [(3, .int (Int32.ofNat i)), (1, .ref x0), (2, .ref m0), (0, .ref b)] [] (wX z σ1 ad2 τ1)) : AL z x 4 Q k n 828 [(3, .int (Int32.ofNat i)), (1, .ref x0), (2, .ref m0), (0, .ref b)] [] (wX z σ ad τ) := by
  refine al_aload_n (j := 1) hC rfl rfl dL_law_828 ?_
  refine al_aload_n (j := 3) hC rfl rfl dL_law_829 ?_
  refine al_iload_n (j := 0) hC rfl rfl dL_law_830 ?_
  refine al_iconst (v := 1) hC rfl dL_law_831 ?_
  refine al_iadd hC dL_law_832 ?_
  refine al_sld (j := i + 1) hC hX (Int32.ofNat_add i 1).symm (by omega) dL_law_833 ?_
  refine al_i2l hC dL_law_834 ?_
  refine al_bipush (v := 32) hC rfl dL_law_835 ?_
  refine al_lshl hC dL_law_837 ?_
  refine al_aload_n (j := 3) hC rfl rfl dL_law_838 ?_
  refine al_iload_n (j := 0) hC rfl rfl dL_law_839 ?_
  refine al_iconst (v := 2) hC rfl dL_law_840 ?_
  refine al_iadd hC dL_law_841 ?_
  refine al_sld (j := i + 2) hC hX (Int32.ofNat_add i 2).symm (by omega) dL_law_842 ?_
  refine al_i2l hC dL_law_843 ?_
  refine al_ldc2 hC kl_L_74 dL_law_844 ?_
  refine al_land hC dL_law_847 ?_
  refine al_lor hC dL_law_848 ?_
  refine al_aload_n (j := 3) hC rfl rfl dL_law_849 ?_
  refine al_iload_n (j := 0) hC rfl rfl dL_law_850 ?_
  refine al_iconst (v := 3) hC rfl dL_law_851 ?_
  refine al_iadd hC dL_law_852 ?_
  refine al_sld (j := i + 3) hC hX (Int32.ofNat_add i 3).symm (by omega) dL_law_853 ?_
  refine al_callL (w := wX z σ) (As := [.long ((((xs (i + 1))).toInt64 <<< ((32 : Int32).toInt64 &&& 63)) ||| (((xs (i + 2))).toInt64 &&& (4294967295))), .int (xs (i + 3))]) (rest := []) (s0 := τ) (s1 := τ1) (r0 := r) (q := 36) hC hR lkl_76 (c_W_feed τ ((((xs (i + 1))).toInt64 <<< ((32 : Int32).toInt64 &&& 63)) ||| (((xs (i + 2))).toInt64 &&& (4294967295))) (xs (i + 3))) hW (fun _ _ h => eqA.L h) dL_law_854 recX10 rfl rfl hx0 rfl ⟨by decide, by decide⟩ (Nat.le_of_ble_eq_true rfl) ⟨by omega, by omega⟩ ⟨_, rfl, fun _ => rfl⟩ (fun ad1 hE1 hC => ?_)
  have hm0 := (hE1 0 (by omega)).trans hm0
  show AL z x 4 Q (k + 0) (n + 0) _ _ _ (wM z τ1 ad1 σ)
  refine al_aload_n (j := 2) hC rfl rfl dL_law_857 ?_
  refine al_aload_n (j := 3) hC rfl rfl dL_law_858 ?_
  refine al_iload_n (j := 0) hC rfl rfl dL_law_859 ?_
  refine al_iconst (v := 1) hC rfl dL_law_860 ?_
  refine al_iadd hC dL_law_861 ?_
  refine al_sld (j := i + 1) hC hX (Int32.ofNat_add i 1).symm (by omega) dL_law_862 ?_
  refine al_i2l hC dL_law_863 ?_
  refine al_bipush (v := 32) hC rfl dL_law_864 ?_
  refine al_lshl hC dL_law_866 ?_
  refine al_aload_n (j := 3) hC rfl rfl dL_law_867 ?_
  refine al_iload_n (j := 0) hC rfl rfl dL_law_868 ?_
  refine al_iconst (v := 2) hC rfl dL_law_869 ?_
  refine al_iadd hC dL_law_870 ?_
  refine al_sld (j := i + 2) hC hX (Int32.ofNat_add i 2).symm (by omega) dL_law_871 ?_
  refine al_i2l hC dL_law_872 ?_
  refine al_ldc2 hC kl_L_74 dL_law_873 ?_
  refine al_land hC dL_law_876 ?_
  refine al_lor hC dL_law_877 ?_
  refine al_aload_n (j := 3) hC rfl rfl dL_law_878 ?_
  refine al_iload_n (j := 0) hC rfl rfl dL_law_879 ?_
  refine al_iconst (v := 3) hC rfl dL_law_880 ?_
  refine al_iadd hC dL_law_881 ?_
  refine al_sld (j := i + 3) hC hX (Int32.ofNat_add i 3).symm (by omega) dL_law_882 ?_
  refine al_callL (w := wM z τ1) (As := [.long ((((xs (i + 1))).toInt64 <<< ((32 : Int32).toInt64 &&& 63)) ||| (((xs (i + 2))).toInt64 &&& (4294967295))), .int (xs (i + 3))]) (rest := [.int r]) (s0 := σ) (s1 := σ1) (r0 := r) (q := 0) hC hR lkl_80 (c_M_feed σ ((((xs (i + 1))).toInt64 <<< ((32 : Int32).toInt64 &&& 63)) ||| (((xs (i + 2))).toInt64 &&& (4294967295))) (xs (i + 3))) hM (fun _ _ h => eqA.L h) dL_law_883 recX11 rfl rfl hm0 rfl ⟨by decide, by decide⟩ (Nat.le_of_ble_eq_true rfl) ⟨by omega, by omega⟩ ⟨_, rfl, fun _ => rfl⟩ (fun ad2 hE2 hC => ?_)
  show AL z x 4 Q _ _ _ _ _ (wX z σ1 ad2 τ1)
  refine al_icmp_eq (tgt := 2151) hC dL_law_886 rfl (fun _ => ?_) (fun g => absurd rfl g)
  exact kk ad2 (hE1.trans hE2)
theorem dL_law_891 : decode code 891 = .ok (.aload_n 1, 1) := by decide +kernel
theorem dL_law_892 : decode code 892 = .ok (.aload_n 0, 1) := by decide +kernel
theorem dL_law_893 : decode code 893 = .ok (.iload_n 3, 1) := by decide +kernel
theorem dL_law_894 : decode code 894 = .ok (.iconst 1, 1) := by decide +kernel
theorem dL_law_895 : decode code 895 = .ok (.iadd, 1) := by decide +kernel
theorem dL_law_896 : decode code 896 = .ok (.iaload, 1) := by decide +kernel
theorem dL_law_897 : decode code 897 = .ok (.invokevirtual 81, 3) := by decide +kernel
theorem dL_law_900 : decode code 900 = .ok (.aload_n 2, 1) := by decide +kernel
theorem dL_law_901 : decode code 901 = .ok (.aload_n 0, 1) := by decide +kernel
theorem dL_law_902 : decode code 902 = .ok (.iload_n 3, 1) := by decide +kernel
theorem dL_law_903 : decode code 903 = .ok (.iconst 1, 1) := by decide +kernel
theorem dL_law_904 : decode code 904 = .ok (.iadd, 1) := by decide +kernel
theorem dL_law_905 : decode code 905 = .ok (.iaload, 1) := by decide +kernel
theorem dL_law_906 : decode code 906 = .ok (.invokevirtual 84, 3) := by decide +kernel
theorem dL_law_909 : decode code 909 = .ok (.if_icmp .eq 1242, 3) := by decide +kernel
theorem dL_law_912 : decode code 912 = .ok (.iconst 0, 1) := by decide +kernel
theorem dL_law_913 : decode code 913 = .ok (.ireturn, 1) := by decide +kernel
set_option maxRecDepth 100000 in
theorem law_c15 {z : ZZ} {x : XX} {Q : State → Prop} {k n : Nat} {ad : Nat → Nat} {b L i x0 m0 : Nat} {xs : Nat → Int32} {σ σ1 : MS} {τ τ1 : XS} {r : Int32} (hC : CX z ad x code RL 4 ret) (hR : x.2.2.1 = room_1) (hX : SX z x b L xs) (hx0 : ad 36 = x0) (hm0 : ad 0 = m0) (hi : i + 4 < L) (hk : k + 7 ≤ 600000 ∧ n + 250 ≤ 7302250) (hW : W_text τ (xs (i + 1)) = some (r, τ1)) (hM : M_text σ (xs (i + 1)) = some (r, σ1)) (kk : ∀ ad2, exL ad ad2 → AL z x 4 Q (k + 7 + 0) (n + 250 + 0) 2151 [(3, .int (Int32.ofNat i)), (1, .ref x0), (2, .ref m0), (0, .ref b)] [] (wX z σ1 ad2 τ1)) : AL z x 4 Q k n 891 [(3, .int (Int32.ofNat i)), (1, .ref x0), (2, .ref m0), (0, .ref b)] [] (wX z σ ad τ) := by
  refine al_aload_n (j := 1) hC rfl rfl dL_law_891 ?_
  refine al_aload_n (j := 3) hC rfl rfl dL_law_892 ?_
  refine al_iload_n (j := 0) hC rfl rfl dL_law_893 ?_
  refine al_iconst (v := 1) hC rfl dL_law_894 ?_
  refine al_iadd hC dL_law_895 ?_
  refine al_sld (j := i + 1) hC hX (Int32.ofNat_add i 1).symm (by omega) dL_law_896 ?_
  refine al_callL (w := wX z σ) (As := [.int (xs (i + 1))]) (rest := []) (s0 := τ) (s1 := τ1) (r0 := r) (q := 36) hC hR lkl_81 (c_W_text τ (xs (i + 1))) hW (fun _ _ h => h.L) dL_law_897 recX10 rfl rfl hx0 rfl ⟨by decide, by decide⟩ (Nat.le_of_ble_eq_true rfl) ⟨by omega, by omega⟩ ⟨_, rfl, fun _ => rfl⟩ (fun ad1 hE1 hC => ?_)
  have hm0 := (hE1 0 (by omega)).trans hm0
  show AL z x 4 Q (k + 7) (n + 250) _ _ _ (wM z τ1 ad1 σ)
  refine al_aload_n (j := 2) hC rfl rfl dL_law_900 ?_
  refine al_aload_n (j := 3) hC rfl rfl dL_law_901 ?_
  refine al_iload_n (j := 0) hC rfl rfl dL_law_902 ?_
  refine al_iconst (v := 1) hC rfl dL_law_903 ?_
  refine al_iadd hC dL_law_904 ?_
  refine al_sld (j := i + 1) hC hX (Int32.ofNat_add i 1).symm (by omega) dL_law_905 ?_
  refine al_callL (w := wM z τ1) (As := [.int (xs (i + 1))]) (rest := [.int r]) (s0 := σ) (s1 := σ1) (r0 := r) (q := 0) hC hR lkl_84 (c_M_text σ (xs (i + 1))) hM (fun _ _ h => eqA.L h) dL_law_906 recX11 rfl rfl hm0 rfl ⟨by decide, by decide⟩ (Nat.le_of_ble_eq_true rfl) ⟨by omega, by omega⟩ ⟨_, rfl, fun _ => rfl⟩ (fun ad2 hE2 hC => ?_)
  show AL z x 4 Q _ _ _ _ _ (wX z σ1 ad2 τ1)
  refine al_icmp_eq (tgt := 2151) hC dL_law_909 rfl (fun _ => ?_) (fun g => absurd rfl g)
  exact kk ad2 (hE1.trans hE2)
theorem dL_law_914 : decode code 914 = .ok (.aload_n 1, 1) := by decide +kernel
theorem dL_law_915 : decode code 915 = .ok (.aload_n 0, 1) := by decide +kernel
theorem dL_law_916 : decode code 916 = .ok (.iload_n 3, 1) := by decide +kernel
theorem dL_law_917 : decode code 917 = .ok (.iconst 1, 1) := by decide +kernel
theorem dL_law_918 : decode code 918 = .ok (.iadd, 1) := by decide +kernel
theorem dL_law_919 : decode code 919 = .ok (.iaload, 1) := by decide +kernel
theorem dL_law_920 : decode code 920 = .ok (.aload_n 0, 1) := by decide +kernel
theorem dL_law_921 : decode code 921 = .ok (.iload_n 3, 1) := by decide +kernel
theorem dL_law_922 : decode code 922 = .ok (.iconst 2, 1) := by decide +kernel
theorem dL_law_923 : decode code 923 = .ok (.iadd, 1) := by decide +kernel
theorem dL_law_924 : decode code 924 = .ok (.iaload, 1) := by decide +kernel
theorem dL_law_925 : decode code 925 = .ok (.invokevirtual 85, 3) := by decide +kernel
theorem dL_law_928 : decode code 928 = .ok (.aload_n 2, 1) := by decide +kernel
theorem dL_law_929 : decode code 929 = .ok (.aload_n 0, 1) := by decide +kernel
theorem dL_law_930 : decode code 930 = .ok (.iload_n 3, 1) := by decide +kernel
theorem dL_law_931 : decode code 931 = .ok (.iconst 1, 1) := by decide +kernel
theorem dL_law_932 : decode code 932 = .ok (.iadd, 1) := by decide +kernel
theorem dL_law_933 : decode code 933 = .ok (.iaload, 1) := by decide +kernel
theorem dL_law_934 : decode code 934 = .ok (.aload_n 0, 1) := by decide +kernel
theorem dL_law_935 : decode code 935 = .ok (.iload_n 3, 1) := by decide +kernel
theorem dL_law_936 : decode code 936 = .ok (.iconst 2, 1) := by decide +kernel
theorem dL_law_937 : decode code 937 = .ok (.iadd, 1) := by decide +kernel
theorem dL_law_938 : decode code 938 = .ok (.iaload, 1) := by decide +kernel
theorem dL_law_939 : decode code 939 = .ok (.invokevirtual 88, 3) := by decide +kernel
theorem dL_law_942 : decode code 942 = .ok (.if_icmp .eq 1209, 3) := by decide +kernel
theorem dL_law_945 : decode code 945 = .ok (.iconst 0, 1) := by decide +kernel
theorem dL_law_946 : decode code 946 = .ok (.ireturn, 1) := by decide +kernel
set_option maxRecDepth 100000 in
theorem law_c16 {z : ZZ} {x : XX} {Q : State → Prop} {k n : Nat} {ad : Nat → Nat} {b L i x0 m0 : Nat} {xs : Nat → Int32} {σ σ1 : MS} {τ τ1 : XS} {r : Int32} (hC : CX z ad x code RL 4 ret) (hR : x.2.2.1 = room_1) (hX : SX z x b L xs) (hx0 : ad 36 = x0) (hm0 : ad 0 = m0) (hi : i + 4 < L) (hk : k + 0 ≤ 600000 ∧ n + 0 ≤ 7302250) (eτ : τ1 = τ) (eσ : σ1 = σ) (hW : W_force τ (xs (i + 1)) (xs (i + 2)) = some r) (hM : M_force σ (xs (i + 1)) (xs (i + 2)) = some r) (kk : ∀ ad2, exL ad ad2 → AL z x 4 Q (k + 0 + 0) (n + 0 + 0) 2151 [(3, .int (Int32.ofNat i)), (1, .ref x0), (2, .ref m0), (0, .ref b)] [] (wX z σ1 ad2 τ1)) : AL z x 4 Q k n 914 [(3, .int (Int32.ofNat i)), (1, .ref x0), (2, .ref m0), (0, .ref b)] [] (wX z σ ad τ) := by
  subst eτ
  subst eσ
  refine al_aload_n (j := 1) hC rfl rfl dL_law_914 ?_
  refine al_aload_n (j := 3) hC rfl rfl dL_law_915 ?_
  refine al_iload_n (j := 0) hC rfl rfl dL_law_916 ?_
  refine al_iconst (v := 1) hC rfl dL_law_917 ?_
  refine al_iadd hC dL_law_918 ?_
  refine al_sld (j := i + 1) hC hX (Int32.ofNat_add i 1).symm (by omega) dL_law_919 ?_
  refine al_aload_n (j := 3) hC rfl rfl dL_law_920 ?_
  refine al_iload_n (j := 0) hC rfl rfl dL_law_921 ?_
  refine al_iconst (v := 2) hC rfl dL_law_922 ?_
  refine al_iadd hC dL_law_923 ?_
  refine al_sld (j := i + 2) hC hX (Int32.ofNat_add i 2).symm (by omega) dL_law_924 ?_
  refine al_callL (w := wX z σ) (As := [.int (xs (i + 1)), .int (xs (i + 2))]) (rest := []) (s0 := τ) (s1 := τ) (r0 := r) (q := 36) hC hR lkl_85 (c_W_force τ (xs (i + 1)) (xs (i + 2))) (by rw [hW]; rfl) (fun _ _ h => eqA.L h) dL_law_925 recX10 rfl rfl hx0 rfl ⟨by decide, by decide⟩ (Nat.le_of_ble_eq_true rfl) ⟨by omega, by omega⟩ ⟨_, rfl, fun _ => rfl⟩ (fun ad1 hE1 hC => ?_)
  have hm0 := (hE1 0 (by omega)).trans hm0
  show AL z x 4 Q (k + 0) (n + 0) _ _ _ (wM z τ1 ad1 σ)
  refine al_aload_n (j := 2) hC rfl rfl dL_law_928 ?_
  refine al_aload_n (j := 3) hC rfl rfl dL_law_929 ?_
  refine al_iload_n (j := 0) hC rfl rfl dL_law_930 ?_
  refine al_iconst (v := 1) hC rfl dL_law_931 ?_
  refine al_iadd hC dL_law_932 ?_
  refine al_sld (j := i + 1) hC hX (Int32.ofNat_add i 1).symm (by omega) dL_law_933 ?_
  refine al_aload_n (j := 3) hC rfl rfl dL_law_934 ?_
  refine al_iload_n (j := 0) hC rfl rfl dL_law_935 ?_
  refine al_iconst (v := 2) hC rfl dL_law_936 ?_
  refine al_iadd hC dL_law_937 ?_
  refine al_sld (j := i + 2) hC hX (Int32.ofNat_add i 2).symm (by omega) dL_law_938 ?_
  refine al_callL (w := wM z τ1) (As := [.int (xs (i + 1)), .int (xs (i + 2))]) (rest := [.int r]) (s0 := σ) (s1 := σ) (r0 := r) (q := 0) hC hR lkl_88 (c_M_force σ (xs (i + 1)) (xs (i + 2))) (by rw [hM]; rfl) (fun _ _ h => eqA.L h) dL_law_939 recX11 rfl rfl hm0 rfl ⟨by decide, by decide⟩ (Nat.le_of_ble_eq_true rfl) ⟨by omega, by omega⟩ ⟨_, rfl, fun _ => rfl⟩ (fun ad2 hE2 hC => ?_)
  show AL z x 4 Q _ _ _ _ _ (wX z σ1 ad2 τ1)
  refine al_icmp_eq (tgt := 2151) hC dL_law_942 rfl (fun _ => ?_) (fun g => absurd rfl g)
  exact kk ad2 (hE1.trans hE2)
theorem dL_law_947 : decode code 947 = .ok (.aload_n 1, 1) := by decide +kernel
theorem dL_law_948 : decode code 948 = .ok (.aload_n 0, 1) := by decide +kernel
theorem dL_law_949 : decode code 949 = .ok (.iload_n 3, 1) := by decide +kernel
theorem dL_law_950 : decode code 950 = .ok (.iconst 1, 1) := by decide +kernel
theorem dL_law_951 : decode code 951 = .ok (.iadd, 1) := by decide +kernel
theorem dL_law_952 : decode code 952 = .ok (.iaload, 1) := by decide +kernel
theorem dL_law_953 : decode code 953 = .ok (.aload_n 0, 1) := by decide +kernel
theorem dL_law_954 : decode code 954 = .ok (.iload_n 3, 1) := by decide +kernel
theorem dL_law_955 : decode code 955 = .ok (.iconst 2, 1) := by decide +kernel
theorem dL_law_956 : decode code 956 = .ok (.iadd, 1) := by decide +kernel
theorem dL_law_957 : decode code 957 = .ok (.iaload, 1) := by decide +kernel
theorem dL_law_958 : decode code 958 = .ok (.aload_n 0, 1) := by decide +kernel
theorem dL_law_959 : decode code 959 = .ok (.iload_n 3, 1) := by decide +kernel
theorem dL_law_960 : decode code 960 = .ok (.iconst 3, 1) := by decide +kernel
theorem dL_law_961 : decode code 961 = .ok (.iadd, 1) := by decide +kernel
theorem dL_law_962 : decode code 962 = .ok (.iaload, 1) := by decide +kernel
theorem dL_law_963 : decode code 963 = .ok (.invokevirtual 89, 3) := by decide +kernel
theorem dL_law_966 : decode code 966 = .ok (.aload_n 2, 1) := by decide +kernel
theorem dL_law_967 : decode code 967 = .ok (.aload_n 0, 1) := by decide +kernel
theorem dL_law_968 : decode code 968 = .ok (.iload_n 3, 1) := by decide +kernel
theorem dL_law_969 : decode code 969 = .ok (.iconst 1, 1) := by decide +kernel
theorem dL_law_970 : decode code 970 = .ok (.iadd, 1) := by decide +kernel
theorem dL_law_971 : decode code 971 = .ok (.iaload, 1) := by decide +kernel
theorem dL_law_972 : decode code 972 = .ok (.aload_n 0, 1) := by decide +kernel
theorem dL_law_973 : decode code 973 = .ok (.iload_n 3, 1) := by decide +kernel
theorem dL_law_974 : decode code 974 = .ok (.iconst 2, 1) := by decide +kernel
theorem dL_law_975 : decode code 975 = .ok (.iadd, 1) := by decide +kernel
theorem dL_law_976 : decode code 976 = .ok (.iaload, 1) := by decide +kernel
theorem dL_law_977 : decode code 977 = .ok (.aload_n 0, 1) := by decide +kernel
theorem dL_law_978 : decode code 978 = .ok (.iload_n 3, 1) := by decide +kernel
theorem dL_law_979 : decode code 979 = .ok (.iconst 3, 1) := by decide +kernel
theorem dL_law_980 : decode code 980 = .ok (.iadd, 1) := by decide +kernel
theorem dL_law_981 : decode code 981 = .ok (.iaload, 1) := by decide +kernel
theorem dL_law_982 : decode code 982 = .ok (.invokevirtual 92, 3) := by decide +kernel
theorem dL_law_985 : decode code 985 = .ok (.if_icmp .eq 1166, 3) := by decide +kernel
theorem dL_law_988 : decode code 988 = .ok (.iconst 0, 1) := by decide +kernel
theorem dL_law_989 : decode code 989 = .ok (.ireturn, 1) := by decide +kernel
set_option maxRecDepth 100000 in
theorem law_c17 {z : ZZ} {x : XX} {Q : State → Prop} {k n : Nat} {ad : Nat → Nat} {b L i x0 m0 : Nat} {xs : Nat → Int32} {σ σ1 : MS} {τ τ1 : XS} {r : Int32} (hC : CX z ad x code RL 4 ret) (hR : x.2.2.1 = room_1) (hX : SX z x b L xs) (hx0 : ad 36 = x0) (hm0 : ad 0 = m0) (hi : i + 4 < L) (hk : k + 0 ≤ 600000 ∧ n + 0 ≤ 7302250) (hW : W_out τ (xs (i + 1)) (xs (i + 2)) (xs (i + 3)) = some (r, τ1)) (hM : M_out σ (xs (i + 1)) (xs (i + 2)) (xs (i + 3)) = some (r, σ1)) (kk : ∀ ad2, exL ad ad2 → AL z x 4 Q (k + 0 + 0) (n + 0 + 0) 2151 [(3, .int (Int32.ofNat i)), (1, .ref x0), (2, .ref m0), (0, .ref b)] [] (wX z σ1 ad2 τ1)) : AL z x 4 Q k n 947 [(3, .int (Int32.ofNat i)), (1, .ref x0), (2, .ref m0), (0, .ref b)] [] (wX z σ ad τ) := by
  refine al_aload_n (j := 1) hC rfl rfl dL_law_947 ?_
  refine al_aload_n (j := 3) hC rfl rfl dL_law_948 ?_
  refine al_iload_n (j := 0) hC rfl rfl dL_law_949 ?_
  refine al_iconst (v := 1) hC rfl dL_law_950 ?_
  refine al_iadd hC dL_law_951 ?_
  refine al_sld (j := i + 1) hC hX (Int32.ofNat_add i 1).symm (by omega) dL_law_952 ?_
  refine al_aload_n (j := 3) hC rfl rfl dL_law_953 ?_
  refine al_iload_n (j := 0) hC rfl rfl dL_law_954 ?_
  refine al_iconst (v := 2) hC rfl dL_law_955 ?_
  refine al_iadd hC dL_law_956 ?_
  refine al_sld (j := i + 2) hC hX (Int32.ofNat_add i 2).symm (by omega) dL_law_957 ?_
  refine al_aload_n (j := 3) hC rfl rfl dL_law_958 ?_
  refine al_iload_n (j := 0) hC rfl rfl dL_law_959 ?_
  refine al_iconst (v := 3) hC rfl dL_law_960 ?_
  refine al_iadd hC dL_law_961 ?_
  refine al_sld (j := i + 3) hC hX (Int32.ofNat_add i 3).symm (by omega) dL_law_962 ?_
  refine al_callL (w := wX z σ) (As := [.int (xs (i + 1)), .int (xs (i + 2)), .int (xs (i + 3))]) (rest := []) (s0 := τ) (s1 := τ1) (r0 := r) (q := 36) hC hR lkl_89 (c_W_out τ (xs (i + 1)) (xs (i + 2)) (xs (i + 3))) hW (fun _ _ h => eqA.L h) dL_law_963 recX10 rfl rfl hx0 rfl ⟨by decide, by decide⟩ (Nat.le_of_ble_eq_true rfl) ⟨by omega, by omega⟩ ⟨_, rfl, fun _ => rfl⟩ (fun ad1 hE1 hC => ?_)
  have hm0 := (hE1 0 (by omega)).trans hm0
  show AL z x 4 Q (k + 0) (n + 0) _ _ _ (wM z τ1 ad1 σ)
  refine al_aload_n (j := 2) hC rfl rfl dL_law_966 ?_
  refine al_aload_n (j := 3) hC rfl rfl dL_law_967 ?_
  refine al_iload_n (j := 0) hC rfl rfl dL_law_968 ?_
  refine al_iconst (v := 1) hC rfl dL_law_969 ?_
  refine al_iadd hC dL_law_970 ?_
  refine al_sld (j := i + 1) hC hX (Int32.ofNat_add i 1).symm (by omega) dL_law_971 ?_
  refine al_aload_n (j := 3) hC rfl rfl dL_law_972 ?_
  refine al_iload_n (j := 0) hC rfl rfl dL_law_973 ?_
  refine al_iconst (v := 2) hC rfl dL_law_974 ?_
  refine al_iadd hC dL_law_975 ?_
  refine al_sld (j := i + 2) hC hX (Int32.ofNat_add i 2).symm (by omega) dL_law_976 ?_
  refine al_aload_n (j := 3) hC rfl rfl dL_law_977 ?_
  refine al_iload_n (j := 0) hC rfl rfl dL_law_978 ?_
  refine al_iconst (v := 3) hC rfl dL_law_979 ?_
  refine al_iadd hC dL_law_980 ?_
  refine al_sld (j := i + 3) hC hX (Int32.ofNat_add i 3).symm (by omega) dL_law_981 ?_
  refine al_callL (w := wM z τ1) (As := [.int (xs (i + 1)), .int (xs (i + 2)), .int (xs (i + 3))]) (rest := [.int r]) (s0 := σ) (s1 := σ1) (r0 := r) (q := 0) hC hR lkl_92 (c_M_out σ (xs (i + 1)) (xs (i + 2)) (xs (i + 3))) hM (fun _ _ h => eqA.L h) dL_law_982 recX11 rfl rfl hm0 rfl ⟨by decide, by decide⟩ (Nat.le_of_ble_eq_true rfl) ⟨by omega, by omega⟩ ⟨_, rfl, fun _ => rfl⟩ (fun ad2 hE2 hC => ?_)
  show AL z x 4 Q _ _ _ _ _ (wX z σ1 ad2 τ1)
  refine al_icmp_eq (tgt := 2151) hC dL_law_985 rfl (fun _ => ?_) (fun g => absurd rfl g)
  exact kk ad2 (hE1.trans hE2)
theorem dL_law_990 : decode code 990 = .ok (.aload_n 1, 1) := by decide +kernel
theorem dL_law_991 : decode code 991 = .ok (.aload_n 0, 1) := by decide +kernel
theorem dL_law_992 : decode code 992 = .ok (.iload_n 3, 1) := by decide +kernel
theorem dL_law_993 : decode code 993 = .ok (.iconst 1, 1) := by decide +kernel
theorem dL_law_994 : decode code 994 = .ok (.iadd, 1) := by decide +kernel
theorem dL_law_995 : decode code 995 = .ok (.iaload, 1) := by decide +kernel
theorem dL_law_996 : decode code 996 = .ok (.aload_n 0, 1) := by decide +kernel
theorem dL_law_997 : decode code 997 = .ok (.iload_n 3, 1) := by decide +kernel
theorem dL_law_998 : decode code 998 = .ok (.iconst 2, 1) := by decide +kernel
theorem dL_law_999 : decode code 999 = .ok (.iadd, 1) := by decide +kernel
theorem dL_law_1000 : decode code 1000 = .ok (.iaload, 1) := by decide +kernel
theorem dL_law_1001 : decode code 1001 = .ok (.aload_n 0, 1) := by decide +kernel
theorem dL_law_1002 : decode code 1002 = .ok (.iload_n 3, 1) := by decide +kernel
theorem dL_law_1003 : decode code 1003 = .ok (.iconst 3, 1) := by decide +kernel
theorem dL_law_1004 : decode code 1004 = .ok (.iadd, 1) := by decide +kernel
theorem dL_law_1005 : decode code 1005 = .ok (.iaload, 1) := by decide +kernel
theorem dL_law_1006 : decode code 1006 = .ok (.aload_n 0, 1) := by decide +kernel
theorem dL_law_1007 : decode code 1007 = .ok (.iload_n 3, 1) := by decide +kernel
theorem dL_law_1008 : decode code 1008 = .ok (.iconst 4, 1) := by decide +kernel
theorem dL_law_1009 : decode code 1009 = .ok (.iadd, 1) := by decide +kernel
theorem dL_law_1010 : decode code 1010 = .ok (.iaload, 1) := by decide +kernel
theorem dL_law_1011 : decode code 1011 = .ok (.invokevirtual 93, 3) := by decide +kernel
theorem dL_law_1014 : decode code 1014 = .ok (.aload_n 2, 1) := by decide +kernel
theorem dL_law_1015 : decode code 1015 = .ok (.aload_n 0, 1) := by decide +kernel
theorem dL_law_1016 : decode code 1016 = .ok (.iload_n 3, 1) := by decide +kernel
theorem dL_law_1017 : decode code 1017 = .ok (.iconst 1, 1) := by decide +kernel
theorem dL_law_1018 : decode code 1018 = .ok (.iadd, 1) := by decide +kernel
theorem dL_law_1019 : decode code 1019 = .ok (.iaload, 1) := by decide +kernel
theorem dL_law_1020 : decode code 1020 = .ok (.aload_n 0, 1) := by decide +kernel
theorem dL_law_1021 : decode code 1021 = .ok (.iload_n 3, 1) := by decide +kernel
theorem dL_law_1022 : decode code 1022 = .ok (.iconst 2, 1) := by decide +kernel
theorem dL_law_1023 : decode code 1023 = .ok (.iadd, 1) := by decide +kernel
theorem dL_law_1024 : decode code 1024 = .ok (.iaload, 1) := by decide +kernel
theorem dL_law_1025 : decode code 1025 = .ok (.aload_n 0, 1) := by decide +kernel
theorem dL_law_1026 : decode code 1026 = .ok (.iload_n 3, 1) := by decide +kernel
theorem dL_law_1027 : decode code 1027 = .ok (.iconst 3, 1) := by decide +kernel
theorem dL_law_1028 : decode code 1028 = .ok (.iadd, 1) := by decide +kernel
theorem dL_law_1029 : decode code 1029 = .ok (.iaload, 1) := by decide +kernel
theorem dL_law_1030 : decode code 1030 = .ok (.aload_n 0, 1) := by decide +kernel
theorem dL_law_1031 : decode code 1031 = .ok (.iload_n 3, 1) := by decide +kernel
theorem dL_law_1032 : decode code 1032 = .ok (.iconst 4, 1) := by decide +kernel
theorem dL_law_1033 : decode code 1033 = .ok (.iadd, 1) := by decide +kernel
theorem dL_law_1034 : decode code 1034 = .ok (.iaload, 1) := by decide +kernel
theorem dL_law_1035 : decode code 1035 = .ok (.invokevirtual 96, 3) := by decide +kernel
theorem dL_law_1038 : decode code 1038 = .ok (.if_icmp .eq 1113, 3) := by decide +kernel
theorem dL_law_1041 : decode code 1041 = .ok (.iconst 0, 1) := by decide +kernel
theorem dL_law_1042 : decode code 1042 = .ok (.ireturn, 1) := by decide +kernel
set_option maxRecDepth 100000 in
theorem law_c18 {z : ZZ} {x : XX} {Q : State → Prop} {k n : Nat} {ad : Nat → Nat} {b L i x0 m0 : Nat} {xs : Nat → Int32} {σ σ1 : MS} {τ τ1 : XS} {r : Int32} (hC : CX z ad x code RL 4 ret) (hR : x.2.2.1 = room_1) (hX : SX z x b L xs) (hx0 : ad 36 = x0) (hm0 : ad 0 = m0) (hi : i + 4 < L) (hk : k + 0 ≤ 600000 ∧ n + 0 ≤ 7302250) (hW : W_rule τ (xs (i + 1)) (xs (i + 2)) (xs (i + 3)) (xs (i + 4)) = some (r, τ1)) (hM : M_rule σ (xs (i + 1)) (xs (i + 2)) (xs (i + 3)) (xs (i + 4)) = some (r, σ1)) (kk : ∀ ad2, exL ad ad2 → AL z x 4 Q (k + 0 + 0) (n + 0 + 0) 2151 [(3, .int (Int32.ofNat i)), (1, .ref x0), (2, .ref m0), (0, .ref b)] [] (wX z σ1 ad2 τ1)) : AL z x 4 Q k n 990 [(3, .int (Int32.ofNat i)), (1, .ref x0), (2, .ref m0), (0, .ref b)] [] (wX z σ ad τ) := by
  refine al_aload_n (j := 1) hC rfl rfl dL_law_990 ?_
  refine al_aload_n (j := 3) hC rfl rfl dL_law_991 ?_
  refine al_iload_n (j := 0) hC rfl rfl dL_law_992 ?_
  refine al_iconst (v := 1) hC rfl dL_law_993 ?_
  refine al_iadd hC dL_law_994 ?_
  refine al_sld (j := i + 1) hC hX (Int32.ofNat_add i 1).symm (by omega) dL_law_995 ?_
  refine al_aload_n (j := 3) hC rfl rfl dL_law_996 ?_
  refine al_iload_n (j := 0) hC rfl rfl dL_law_997 ?_
  refine al_iconst (v := 2) hC rfl dL_law_998 ?_
  refine al_iadd hC dL_law_999 ?_
  refine al_sld (j := i + 2) hC hX (Int32.ofNat_add i 2).symm (by omega) dL_law_1000 ?_
  refine al_aload_n (j := 3) hC rfl rfl dL_law_1001 ?_
  refine al_iload_n (j := 0) hC rfl rfl dL_law_1002 ?_
  refine al_iconst (v := 3) hC rfl dL_law_1003 ?_
  refine al_iadd hC dL_law_1004 ?_
  refine al_sld (j := i + 3) hC hX (Int32.ofNat_add i 3).symm (by omega) dL_law_1005 ?_
  refine al_aload_n (j := 3) hC rfl rfl dL_law_1006 ?_
  refine al_iload_n (j := 0) hC rfl rfl dL_law_1007 ?_
  refine al_iconst (v := 4) hC rfl dL_law_1008 ?_
  refine al_iadd hC dL_law_1009 ?_
  refine al_sld (j := i + 4) hC hX (Int32.ofNat_add i 4).symm (by omega) dL_law_1010 ?_
  refine al_callL (w := wX z σ) (As := [.int (xs (i + 1)), .int (xs (i + 2)), .int (xs (i + 3)), .int (xs (i + 4))]) (rest := []) (s0 := τ) (s1 := τ1) (r0 := r) (q := 36) hC hR lkl_93 (c_W_rule τ (xs (i + 1)) (xs (i + 2)) (xs (i + 3)) (xs (i + 4))) hW (fun _ _ h => eqA.L h) dL_law_1011 recX10 rfl rfl hx0 rfl ⟨by decide, by decide⟩ (Nat.le_of_ble_eq_true rfl) ⟨by omega, by omega⟩ ⟨_, rfl, fun _ => rfl⟩ (fun ad1 hE1 hC => ?_)
  have hm0 := (hE1 0 (by omega)).trans hm0
  show AL z x 4 Q (k + 0) (n + 0) _ _ _ (wM z τ1 ad1 σ)
  refine al_aload_n (j := 2) hC rfl rfl dL_law_1014 ?_
  refine al_aload_n (j := 3) hC rfl rfl dL_law_1015 ?_
  refine al_iload_n (j := 0) hC rfl rfl dL_law_1016 ?_
  refine al_iconst (v := 1) hC rfl dL_law_1017 ?_
  refine al_iadd hC dL_law_1018 ?_
  refine al_sld (j := i + 1) hC hX (Int32.ofNat_add i 1).symm (by omega) dL_law_1019 ?_
  refine al_aload_n (j := 3) hC rfl rfl dL_law_1020 ?_
  refine al_iload_n (j := 0) hC rfl rfl dL_law_1021 ?_
  refine al_iconst (v := 2) hC rfl dL_law_1022 ?_
  refine al_iadd hC dL_law_1023 ?_
  refine al_sld (j := i + 2) hC hX (Int32.ofNat_add i 2).symm (by omega) dL_law_1024 ?_
  refine al_aload_n (j := 3) hC rfl rfl dL_law_1025 ?_
  refine al_iload_n (j := 0) hC rfl rfl dL_law_1026 ?_
  refine al_iconst (v := 3) hC rfl dL_law_1027 ?_
  refine al_iadd hC dL_law_1028 ?_
  refine al_sld (j := i + 3) hC hX (Int32.ofNat_add i 3).symm (by omega) dL_law_1029 ?_
  refine al_aload_n (j := 3) hC rfl rfl dL_law_1030 ?_
  refine al_iload_n (j := 0) hC rfl rfl dL_law_1031 ?_
  refine al_iconst (v := 4) hC rfl dL_law_1032 ?_
  refine al_iadd hC dL_law_1033 ?_
  refine al_sld (j := i + 4) hC hX (Int32.ofNat_add i 4).symm (by omega) dL_law_1034 ?_
  refine al_callL (w := wM z τ1) (As := [.int (xs (i + 1)), .int (xs (i + 2)), .int (xs (i + 3)), .int (xs (i + 4))]) (rest := [.int r]) (s0 := σ) (s1 := σ1) (r0 := r) (q := 0) hC hR lkl_96 (c_M_rule σ (xs (i + 1)) (xs (i + 2)) (xs (i + 3)) (xs (i + 4))) hM (fun _ _ h => eqA.L h) dL_law_1035 recX11 rfl rfl hm0 rfl ⟨by decide, by decide⟩ (Nat.le_of_ble_eq_true rfl) ⟨by omega, by omega⟩ ⟨_, rfl, fun _ => rfl⟩ (fun ad2 hE2 hC => ?_)
  show AL z x 4 Q _ _ _ _ _ (wX z σ1 ad2 τ1)
  refine al_icmp_eq (tgt := 2151) hC dL_law_1038 rfl (fun _ => ?_) (fun g => absurd rfl g)
  exact kk ad2 (hE1.trans hE2)
theorem dL_law_1043 : decode code 1043 = .ok (.aload_n 1, 1) := by decide +kernel
theorem dL_law_1044 : decode code 1044 = .ok (.aload_n 0, 1) := by decide +kernel
theorem dL_law_1045 : decode code 1045 = .ok (.iload_n 3, 1) := by decide +kernel
theorem dL_law_1046 : decode code 1046 = .ok (.iconst 1, 1) := by decide +kernel
theorem dL_law_1047 : decode code 1047 = .ok (.iadd, 1) := by decide +kernel
theorem dL_law_1048 : decode code 1048 = .ok (.iaload, 1) := by decide +kernel
theorem dL_law_1049 : decode code 1049 = .ok (.aload_n 0, 1) := by decide +kernel
theorem dL_law_1050 : decode code 1050 = .ok (.iload_n 3, 1) := by decide +kernel
theorem dL_law_1051 : decode code 1051 = .ok (.iconst 2, 1) := by decide +kernel
theorem dL_law_1052 : decode code 1052 = .ok (.iadd, 1) := by decide +kernel
theorem dL_law_1053 : decode code 1053 = .ok (.iaload, 1) := by decide +kernel
theorem dL_law_1054 : decode code 1054 = .ok (.aload_n 0, 1) := by decide +kernel
theorem dL_law_1055 : decode code 1055 = .ok (.iload_n 3, 1) := by decide +kernel
theorem dL_law_1056 : decode code 1056 = .ok (.iconst 3, 1) := by decide +kernel
theorem dL_law_1057 : decode code 1057 = .ok (.iadd, 1) := by decide +kernel
theorem dL_law_1058 : decode code 1058 = .ok (.iaload, 1) := by decide +kernel
theorem dL_law_1059 : decode code 1059 = .ok (.aload_n 0, 1) := by decide +kernel
theorem dL_law_1060 : decode code 1060 = .ok (.iload_n 3, 1) := by decide +kernel
theorem dL_law_1061 : decode code 1061 = .ok (.iconst 4, 1) := by decide +kernel
theorem dL_law_1062 : decode code 1062 = .ok (.iadd, 1) := by decide +kernel
theorem dL_law_1063 : decode code 1063 = .ok (.iaload, 1) := by decide +kernel
theorem dL_law_1064 : decode code 1064 = .ok (.invokevirtual 97, 3) := by decide +kernel
theorem dL_law_1067 : decode code 1067 = .ok (.aload_n 2, 1) := by decide +kernel
theorem dL_law_1068 : decode code 1068 = .ok (.aload_n 0, 1) := by decide +kernel
theorem dL_law_1069 : decode code 1069 = .ok (.iload_n 3, 1) := by decide +kernel
theorem dL_law_1070 : decode code 1070 = .ok (.iconst 1, 1) := by decide +kernel
theorem dL_law_1071 : decode code 1071 = .ok (.iadd, 1) := by decide +kernel
theorem dL_law_1072 : decode code 1072 = .ok (.iaload, 1) := by decide +kernel
theorem dL_law_1073 : decode code 1073 = .ok (.aload_n 0, 1) := by decide +kernel
theorem dL_law_1074 : decode code 1074 = .ok (.iload_n 3, 1) := by decide +kernel
theorem dL_law_1075 : decode code 1075 = .ok (.iconst 2, 1) := by decide +kernel
theorem dL_law_1076 : decode code 1076 = .ok (.iadd, 1) := by decide +kernel
theorem dL_law_1077 : decode code 1077 = .ok (.iaload, 1) := by decide +kernel
theorem dL_law_1078 : decode code 1078 = .ok (.aload_n 0, 1) := by decide +kernel
theorem dL_law_1079 : decode code 1079 = .ok (.iload_n 3, 1) := by decide +kernel
theorem dL_law_1080 : decode code 1080 = .ok (.iconst 3, 1) := by decide +kernel
theorem dL_law_1081 : decode code 1081 = .ok (.iadd, 1) := by decide +kernel
theorem dL_law_1082 : decode code 1082 = .ok (.iaload, 1) := by decide +kernel
theorem dL_law_1083 : decode code 1083 = .ok (.aload_n 0, 1) := by decide +kernel
theorem dL_law_1084 : decode code 1084 = .ok (.iload_n 3, 1) := by decide +kernel
theorem dL_law_1085 : decode code 1085 = .ok (.iconst 4, 1) := by decide +kernel
theorem dL_law_1086 : decode code 1086 = .ok (.iadd, 1) := by decide +kernel
theorem dL_law_1087 : decode code 1087 = .ok (.iaload, 1) := by decide +kernel
theorem dL_law_1088 : decode code 1088 = .ok (.invokevirtual 100, 3) := by decide +kernel
theorem dL_law_1091 : decode code 1091 = .ok (.if_icmp .eq 1060, 3) := by decide +kernel
theorem dL_law_1094 : decode code 1094 = .ok (.iconst 0, 1) := by decide +kernel
theorem dL_law_1095 : decode code 1095 = .ok (.ireturn, 1) := by decide +kernel
set_option maxRecDepth 100000 in
theorem law_c19 {z : ZZ} {x : XX} {Q : State → Prop} {k n : Nat} {ad : Nat → Nat} {b L i x0 m0 : Nat} {xs : Nat → Int32} {σ σ1 : MS} {τ τ1 : XS} {r : Int32} (hC : CX z ad x code RL 4 ret) (hR : x.2.2.1 = room_1) (hX : SX z x b L xs) (hx0 : ad 36 = x0) (hm0 : ad 0 = m0) (hi : i + 4 < L) (hk : k + 0 ≤ 600000 ∧ n + 0 ≤ 7302250) (hW : W_why τ (xs (i + 1)) (xs (i + 2)) (xs (i + 3)) (xs (i + 4)) = some (r, τ1)) (hM : M_why σ (xs (i + 1)) (xs (i + 2)) (xs (i + 3)) (xs (i + 4)) = some (r, σ1)) (kk : ∀ ad2, exL ad ad2 → AL z x 4 Q (k + 0 + 0) (n + 0 + 0) 2151 [(3, .int (Int32.ofNat i)), (1, .ref x0), (2, .ref m0), (0, .ref b)] [] (wX z σ1 ad2 τ1)) : AL z x 4 Q k n 1043 [(3, .int (Int32.ofNat i)), (1, .ref x0), (2, .ref m0), (0, .ref b)] [] (wX z σ ad τ) := by
  refine al_aload_n (j := 1) hC rfl rfl dL_law_1043 ?_
  refine al_aload_n (j := 3) hC rfl rfl dL_law_1044 ?_
  refine al_iload_n (j := 0) hC rfl rfl dL_law_1045 ?_
  refine al_iconst (v := 1) hC rfl dL_law_1046 ?_
  refine al_iadd hC dL_law_1047 ?_
  refine al_sld (j := i + 1) hC hX (Int32.ofNat_add i 1).symm (by omega) dL_law_1048 ?_
  refine al_aload_n (j := 3) hC rfl rfl dL_law_1049 ?_
  refine al_iload_n (j := 0) hC rfl rfl dL_law_1050 ?_
  refine al_iconst (v := 2) hC rfl dL_law_1051 ?_
  refine al_iadd hC dL_law_1052 ?_
  refine al_sld (j := i + 2) hC hX (Int32.ofNat_add i 2).symm (by omega) dL_law_1053 ?_
  refine al_aload_n (j := 3) hC rfl rfl dL_law_1054 ?_
  refine al_iload_n (j := 0) hC rfl rfl dL_law_1055 ?_
  refine al_iconst (v := 3) hC rfl dL_law_1056 ?_
  refine al_iadd hC dL_law_1057 ?_
  refine al_sld (j := i + 3) hC hX (Int32.ofNat_add i 3).symm (by omega) dL_law_1058 ?_
  refine al_aload_n (j := 3) hC rfl rfl dL_law_1059 ?_
  refine al_iload_n (j := 0) hC rfl rfl dL_law_1060 ?_
  refine al_iconst (v := 4) hC rfl dL_law_1061 ?_
  refine al_iadd hC dL_law_1062 ?_
  refine al_sld (j := i + 4) hC hX (Int32.ofNat_add i 4).symm (by omega) dL_law_1063 ?_
  refine al_callL (w := wX z σ) (As := [.int (xs (i + 1)), .int (xs (i + 2)), .int (xs (i + 3)), .int (xs (i + 4))]) (rest := []) (s0 := τ) (s1 := τ1) (r0 := r) (q := 36) hC hR lkl_97 (c_W_why τ (xs (i + 1)) (xs (i + 2)) (xs (i + 3)) (xs (i + 4))) hW (fun _ _ h => eqA.L h) dL_law_1064 recX10 rfl rfl hx0 rfl ⟨by decide, by decide⟩ (Nat.le_of_ble_eq_true rfl) ⟨by omega, by omega⟩ ⟨_, rfl, fun _ => rfl⟩ (fun ad1 hE1 hC => ?_)
  have hm0 := (hE1 0 (by omega)).trans hm0
  show AL z x 4 Q (k + 0) (n + 0) _ _ _ (wM z τ1 ad1 σ)
  refine al_aload_n (j := 2) hC rfl rfl dL_law_1067 ?_
  refine al_aload_n (j := 3) hC rfl rfl dL_law_1068 ?_
  refine al_iload_n (j := 0) hC rfl rfl dL_law_1069 ?_
  refine al_iconst (v := 1) hC rfl dL_law_1070 ?_
  refine al_iadd hC dL_law_1071 ?_
  refine al_sld (j := i + 1) hC hX (Int32.ofNat_add i 1).symm (by omega) dL_law_1072 ?_
  refine al_aload_n (j := 3) hC rfl rfl dL_law_1073 ?_
  refine al_iload_n (j := 0) hC rfl rfl dL_law_1074 ?_
  refine al_iconst (v := 2) hC rfl dL_law_1075 ?_
  refine al_iadd hC dL_law_1076 ?_
  refine al_sld (j := i + 2) hC hX (Int32.ofNat_add i 2).symm (by omega) dL_law_1077 ?_
  refine al_aload_n (j := 3) hC rfl rfl dL_law_1078 ?_
  refine al_iload_n (j := 0) hC rfl rfl dL_law_1079 ?_
  refine al_iconst (v := 3) hC rfl dL_law_1080 ?_
  refine al_iadd hC dL_law_1081 ?_
  refine al_sld (j := i + 3) hC hX (Int32.ofNat_add i 3).symm (by omega) dL_law_1082 ?_
  refine al_aload_n (j := 3) hC rfl rfl dL_law_1083 ?_
  refine al_iload_n (j := 0) hC rfl rfl dL_law_1084 ?_
  refine al_iconst (v := 4) hC rfl dL_law_1085 ?_
  refine al_iadd hC dL_law_1086 ?_
  refine al_sld (j := i + 4) hC hX (Int32.ofNat_add i 4).symm (by omega) dL_law_1087 ?_
  refine al_callL (w := wM z τ1) (As := [.int (xs (i + 1)), .int (xs (i + 2)), .int (xs (i + 3)), .int (xs (i + 4))]) (rest := [.int r]) (s0 := σ) (s1 := σ1) (r0 := r) (q := 0) hC hR lkl_100 (c_M_why σ (xs (i + 1)) (xs (i + 2)) (xs (i + 3)) (xs (i + 4))) hM (fun _ _ h => eqA.L h) dL_law_1088 recX11 rfl rfl hm0 rfl ⟨by decide, by decide⟩ (Nat.le_of_ble_eq_true rfl) ⟨by omega, by omega⟩ ⟨_, rfl, fun _ => rfl⟩ (fun ad2 hE2 hC => ?_)
  show AL z x 4 Q _ _ _ _ _ (wX z σ1 ad2 τ1)
  refine al_icmp_eq (tgt := 2151) hC dL_law_1091 rfl (fun _ => ?_) (fun g => absurd rfl g)
  exact kk ad2 (hE1.trans hE2)
theorem dL_law_1096 : decode code 1096 = .ok (.aload_n 1, 1) := by decide +kernel
theorem dL_law_1097 : decode code 1097 = .ok (.aload_n 0, 1) := by decide +kernel
theorem dL_law_1098 : decode code 1098 = .ok (.iload_n 3, 1) := by decide +kernel
theorem dL_law_1099 : decode code 1099 = .ok (.iconst 1, 1) := by decide +kernel
theorem dL_law_1100 : decode code 1100 = .ok (.iadd, 1) := by decide +kernel
theorem dL_law_1101 : decode code 1101 = .ok (.iaload, 1) := by decide +kernel
theorem dL_law_1102 : decode code 1102 = .ok (.aload_n 0, 1) := by decide +kernel
theorem dL_law_1103 : decode code 1103 = .ok (.iload_n 3, 1) := by decide +kernel
theorem dL_law_1104 : decode code 1104 = .ok (.iconst 2, 1) := by decide +kernel
theorem dL_law_1105 : decode code 1105 = .ok (.iadd, 1) := by decide +kernel
theorem dL_law_1106 : decode code 1106 = .ok (.iaload, 1) := by decide +kernel
theorem dL_law_1107 : decode code 1107 = .ok (.aload_n 0, 1) := by decide +kernel
theorem dL_law_1108 : decode code 1108 = .ok (.iload_n 3, 1) := by decide +kernel
theorem dL_law_1109 : decode code 1109 = .ok (.iconst 3, 1) := by decide +kernel
theorem dL_law_1110 : decode code 1110 = .ok (.iadd, 1) := by decide +kernel
theorem dL_law_1111 : decode code 1111 = .ok (.iaload, 1) := by decide +kernel
theorem dL_law_1112 : decode code 1112 = .ok (.aload_n 0, 1) := by decide +kernel
theorem dL_law_1113 : decode code 1113 = .ok (.iload_n 3, 1) := by decide +kernel
theorem dL_law_1114 : decode code 1114 = .ok (.iconst 4, 1) := by decide +kernel
theorem dL_law_1115 : decode code 1115 = .ok (.iadd, 1) := by decide +kernel
theorem dL_law_1116 : decode code 1116 = .ok (.iaload, 1) := by decide +kernel
theorem dL_law_1117 : decode code 1117 = .ok (.invokevirtual 101, 3) := by decide +kernel
theorem dL_law_1120 : decode code 1120 = .ok (.aload_n 2, 1) := by decide +kernel
theorem dL_law_1121 : decode code 1121 = .ok (.aload_n 0, 1) := by decide +kernel
theorem dL_law_1122 : decode code 1122 = .ok (.iload_n 3, 1) := by decide +kernel
theorem dL_law_1123 : decode code 1123 = .ok (.iconst 1, 1) := by decide +kernel
theorem dL_law_1124 : decode code 1124 = .ok (.iadd, 1) := by decide +kernel
theorem dL_law_1125 : decode code 1125 = .ok (.iaload, 1) := by decide +kernel
theorem dL_law_1126 : decode code 1126 = .ok (.aload_n 0, 1) := by decide +kernel
theorem dL_law_1127 : decode code 1127 = .ok (.iload_n 3, 1) := by decide +kernel
theorem dL_law_1128 : decode code 1128 = .ok (.iconst 2, 1) := by decide +kernel
theorem dL_law_1129 : decode code 1129 = .ok (.iadd, 1) := by decide +kernel
theorem dL_law_1130 : decode code 1130 = .ok (.iaload, 1) := by decide +kernel
theorem dL_law_1131 : decode code 1131 = .ok (.aload_n 0, 1) := by decide +kernel
theorem dL_law_1132 : decode code 1132 = .ok (.iload_n 3, 1) := by decide +kernel
theorem dL_law_1133 : decode code 1133 = .ok (.iconst 3, 1) := by decide +kernel
theorem dL_law_1134 : decode code 1134 = .ok (.iadd, 1) := by decide +kernel
theorem dL_law_1135 : decode code 1135 = .ok (.iaload, 1) := by decide +kernel
theorem dL_law_1136 : decode code 1136 = .ok (.aload_n 0, 1) := by decide +kernel
theorem dL_law_1137 : decode code 1137 = .ok (.iload_n 3, 1) := by decide +kernel
theorem dL_law_1138 : decode code 1138 = .ok (.iconst 4, 1) := by decide +kernel
theorem dL_law_1139 : decode code 1139 = .ok (.iadd, 1) := by decide +kernel
theorem dL_law_1140 : decode code 1140 = .ok (.iaload, 1) := by decide +kernel
theorem dL_law_1141 : decode code 1141 = .ok (.invokevirtual 104, 3) := by decide +kernel
theorem dL_law_1144 : decode code 1144 = .ok (.if_icmp .eq 1007, 3) := by decide +kernel
theorem dL_law_1147 : decode code 1147 = .ok (.iconst 0, 1) := by decide +kernel
theorem dL_law_1148 : decode code 1148 = .ok (.ireturn, 1) := by decide +kernel
set_option maxRecDepth 100000 in
theorem law_c20 {z : ZZ} {x : XX} {Q : State → Prop} {k n : Nat} {ad : Nat → Nat} {b L i x0 m0 : Nat} {xs : Nat → Int32} {σ σ1 : MS} {τ τ1 : XS} {r : Int32} (hC : CX z ad x code RL 4 ret) (hR : x.2.2.1 = room_1) (hX : SX z x b L xs) (hx0 : ad 36 = x0) (hm0 : ad 0 = m0) (hi : i + 4 < L) (hk : k + 0 ≤ 600000 ∧ n + 0 ≤ 7302250) (hW : W_quarrel τ (xs (i + 1)) (xs (i + 2)) (xs (i + 3)) (xs (i + 4)) = some (r, τ1)) (hM : M_quarrel σ (xs (i + 1)) (xs (i + 2)) (xs (i + 3)) (xs (i + 4)) = some (r, σ1)) (kk : ∀ ad2, exL ad ad2 → AL z x 4 Q (k + 0 + 0) (n + 0 + 0) 2151 [(3, .int (Int32.ofNat i)), (1, .ref x0), (2, .ref m0), (0, .ref b)] [] (wX z σ1 ad2 τ1)) : AL z x 4 Q k n 1096 [(3, .int (Int32.ofNat i)), (1, .ref x0), (2, .ref m0), (0, .ref b)] [] (wX z σ ad τ) := by
  refine al_aload_n (j := 1) hC rfl rfl dL_law_1096 ?_
  refine al_aload_n (j := 3) hC rfl rfl dL_law_1097 ?_
  refine al_iload_n (j := 0) hC rfl rfl dL_law_1098 ?_
  refine al_iconst (v := 1) hC rfl dL_law_1099 ?_
  refine al_iadd hC dL_law_1100 ?_
  refine al_sld (j := i + 1) hC hX (Int32.ofNat_add i 1).symm (by omega) dL_law_1101 ?_
  refine al_aload_n (j := 3) hC rfl rfl dL_law_1102 ?_
  refine al_iload_n (j := 0) hC rfl rfl dL_law_1103 ?_
  refine al_iconst (v := 2) hC rfl dL_law_1104 ?_
  refine al_iadd hC dL_law_1105 ?_
  refine al_sld (j := i + 2) hC hX (Int32.ofNat_add i 2).symm (by omega) dL_law_1106 ?_
  refine al_aload_n (j := 3) hC rfl rfl dL_law_1107 ?_
  refine al_iload_n (j := 0) hC rfl rfl dL_law_1108 ?_
  refine al_iconst (v := 3) hC rfl dL_law_1109 ?_
  refine al_iadd hC dL_law_1110 ?_
  refine al_sld (j := i + 3) hC hX (Int32.ofNat_add i 3).symm (by omega) dL_law_1111 ?_
  refine al_aload_n (j := 3) hC rfl rfl dL_law_1112 ?_
  refine al_iload_n (j := 0) hC rfl rfl dL_law_1113 ?_
  refine al_iconst (v := 4) hC rfl dL_law_1114 ?_
  refine al_iadd hC dL_law_1115 ?_
  refine al_sld (j := i + 4) hC hX (Int32.ofNat_add i 4).symm (by omega) dL_law_1116 ?_
  refine al_callL (w := wX z σ) (As := [.int (xs (i + 1)), .int (xs (i + 2)), .int (xs (i + 3)), .int (xs (i + 4))]) (rest := []) (s0 := τ) (s1 := τ1) (r0 := r) (q := 36) hC hR lkl_101 (c_W_quarrel τ (xs (i + 1)) (xs (i + 2)) (xs (i + 3)) (xs (i + 4))) hW (fun _ _ h => eqA.L h) dL_law_1117 recX10 rfl rfl hx0 rfl ⟨by decide, by decide⟩ (Nat.le_of_ble_eq_true rfl) ⟨by omega, by omega⟩ ⟨_, rfl, fun _ => rfl⟩ (fun ad1 hE1 hC => ?_)
  have hm0 := (hE1 0 (by omega)).trans hm0
  show AL z x 4 Q (k + 0) (n + 0) _ _ _ (wM z τ1 ad1 σ)
  refine al_aload_n (j := 2) hC rfl rfl dL_law_1120 ?_
  refine al_aload_n (j := 3) hC rfl rfl dL_law_1121 ?_
  refine al_iload_n (j := 0) hC rfl rfl dL_law_1122 ?_
  refine al_iconst (v := 1) hC rfl dL_law_1123 ?_
  refine al_iadd hC dL_law_1124 ?_
  refine al_sld (j := i + 1) hC hX (Int32.ofNat_add i 1).symm (by omega) dL_law_1125 ?_
  refine al_aload_n (j := 3) hC rfl rfl dL_law_1126 ?_
  refine al_iload_n (j := 0) hC rfl rfl dL_law_1127 ?_
  refine al_iconst (v := 2) hC rfl dL_law_1128 ?_
  refine al_iadd hC dL_law_1129 ?_
  refine al_sld (j := i + 2) hC hX (Int32.ofNat_add i 2).symm (by omega) dL_law_1130 ?_
  refine al_aload_n (j := 3) hC rfl rfl dL_law_1131 ?_
  refine al_iload_n (j := 0) hC rfl rfl dL_law_1132 ?_
  refine al_iconst (v := 3) hC rfl dL_law_1133 ?_
  refine al_iadd hC dL_law_1134 ?_
  refine al_sld (j := i + 3) hC hX (Int32.ofNat_add i 3).symm (by omega) dL_law_1135 ?_
  refine al_aload_n (j := 3) hC rfl rfl dL_law_1136 ?_
  refine al_iload_n (j := 0) hC rfl rfl dL_law_1137 ?_
  refine al_iconst (v := 4) hC rfl dL_law_1138 ?_
  refine al_iadd hC dL_law_1139 ?_
  refine al_sld (j := i + 4) hC hX (Int32.ofNat_add i 4).symm (by omega) dL_law_1140 ?_
  refine al_callL (w := wM z τ1) (As := [.int (xs (i + 1)), .int (xs (i + 2)), .int (xs (i + 3)), .int (xs (i + 4))]) (rest := [.int r]) (s0 := σ) (s1 := σ1) (r0 := r) (q := 0) hC hR lkl_104 (c_M_quarrel σ (xs (i + 1)) (xs (i + 2)) (xs (i + 3)) (xs (i + 4))) hM (fun _ _ h => eqA.L h) dL_law_1141 recX11 rfl rfl hm0 rfl ⟨by decide, by decide⟩ (Nat.le_of_ble_eq_true rfl) ⟨by omega, by omega⟩ ⟨_, rfl, fun _ => rfl⟩ (fun ad2 hE2 hC => ?_)
  show AL z x 4 Q _ _ _ _ _ (wX z σ1 ad2 τ1)
  refine al_icmp_eq (tgt := 2151) hC dL_law_1144 rfl (fun _ => ?_) (fun g => absurd rfl g)
  exact kk ad2 (hE1.trans hE2)
theorem dL_law_1149 : decode code 1149 = .ok (.aload_n 1, 1) := by decide +kernel
theorem dL_law_1150 : decode code 1150 = .ok (.aload_n 0, 1) := by decide +kernel
theorem dL_law_1151 : decode code 1151 = .ok (.iload_n 3, 1) := by decide +kernel
theorem dL_law_1152 : decode code 1152 = .ok (.iconst 1, 1) := by decide +kernel
theorem dL_law_1153 : decode code 1153 = .ok (.iadd, 1) := by decide +kernel
theorem dL_law_1154 : decode code 1154 = .ok (.iaload, 1) := by decide +kernel
theorem dL_law_1155 : decode code 1155 = .ok (.aload_n 0, 1) := by decide +kernel
theorem dL_law_1156 : decode code 1156 = .ok (.iload_n 3, 1) := by decide +kernel
theorem dL_law_1157 : decode code 1157 = .ok (.iconst 2, 1) := by decide +kernel
theorem dL_law_1158 : decode code 1158 = .ok (.iadd, 1) := by decide +kernel
theorem dL_law_1159 : decode code 1159 = .ok (.iaload, 1) := by decide +kernel
theorem dL_law_1160 : decode code 1160 = .ok (.aload_n 0, 1) := by decide +kernel
theorem dL_law_1161 : decode code 1161 = .ok (.iload_n 3, 1) := by decide +kernel
theorem dL_law_1162 : decode code 1162 = .ok (.iconst 3, 1) := by decide +kernel
theorem dL_law_1163 : decode code 1163 = .ok (.iadd, 1) := by decide +kernel
theorem dL_law_1164 : decode code 1164 = .ok (.iaload, 1) := by decide +kernel
theorem dL_law_1165 : decode code 1165 = .ok (.aload_n 0, 1) := by decide +kernel
theorem dL_law_1166 : decode code 1166 = .ok (.iload_n 3, 1) := by decide +kernel
theorem dL_law_1167 : decode code 1167 = .ok (.iconst 4, 1) := by decide +kernel
theorem dL_law_1168 : decode code 1168 = .ok (.iadd, 1) := by decide +kernel
theorem dL_law_1169 : decode code 1169 = .ok (.iaload, 1) := by decide +kernel
theorem dL_law_1170 : decode code 1170 = .ok (.invokevirtual 105, 3) := by decide +kernel
theorem dL_law_1173 : decode code 1173 = .ok (.aload_n 2, 1) := by decide +kernel
theorem dL_law_1174 : decode code 1174 = .ok (.aload_n 0, 1) := by decide +kernel
theorem dL_law_1175 : decode code 1175 = .ok (.iload_n 3, 1) := by decide +kernel
theorem dL_law_1176 : decode code 1176 = .ok (.iconst 1, 1) := by decide +kernel
theorem dL_law_1177 : decode code 1177 = .ok (.iadd, 1) := by decide +kernel
theorem dL_law_1178 : decode code 1178 = .ok (.iaload, 1) := by decide +kernel
theorem dL_law_1179 : decode code 1179 = .ok (.aload_n 0, 1) := by decide +kernel
theorem dL_law_1180 : decode code 1180 = .ok (.iload_n 3, 1) := by decide +kernel
theorem dL_law_1181 : decode code 1181 = .ok (.iconst 2, 1) := by decide +kernel
theorem dL_law_1182 : decode code 1182 = .ok (.iadd, 1) := by decide +kernel
theorem dL_law_1183 : decode code 1183 = .ok (.iaload, 1) := by decide +kernel
theorem dL_law_1184 : decode code 1184 = .ok (.aload_n 0, 1) := by decide +kernel
theorem dL_law_1185 : decode code 1185 = .ok (.iload_n 3, 1) := by decide +kernel
theorem dL_law_1186 : decode code 1186 = .ok (.iconst 3, 1) := by decide +kernel
theorem dL_law_1187 : decode code 1187 = .ok (.iadd, 1) := by decide +kernel
theorem dL_law_1188 : decode code 1188 = .ok (.iaload, 1) := by decide +kernel
theorem dL_law_1189 : decode code 1189 = .ok (.aload_n 0, 1) := by decide +kernel
theorem dL_law_1190 : decode code 1190 = .ok (.iload_n 3, 1) := by decide +kernel
theorem dL_law_1191 : decode code 1191 = .ok (.iconst 4, 1) := by decide +kernel
theorem dL_law_1192 : decode code 1192 = .ok (.iadd, 1) := by decide +kernel
theorem dL_law_1193 : decode code 1193 = .ok (.iaload, 1) := by decide +kernel
theorem dL_law_1194 : decode code 1194 = .ok (.invokevirtual 109, 3) := by decide +kernel
theorem dL_law_1197 : decode code 1197 = .ok (.lcmp, 1) := by decide +kernel
theorem dL_law_1198 : decode code 1198 = .ok (.ifCond .eq 953, 3) := by decide +kernel
theorem dL_law_1201 : decode code 1201 = .ok (.iconst 0, 1) := by decide +kernel
theorem dL_law_1202 : decode code 1202 = .ok (.ireturn, 1) := by decide +kernel
set_option maxRecDepth 100000 in
theorem law_c21 {z : ZZ} {x : XX} {Q : State → Prop} {k n : Nat} {ad : Nat → Nat} {b L i x0 m0 : Nat} {xs : Nat → Int32} {σ σ1 : MS} {τ τ1 : XS} {r : Int64} (hC : CX z ad x code RL 4 ret) (hR : x.2.2.1 = room_1) (hX : SX z x b L xs) (hx0 : ad 36 = x0) (hm0 : ad 0 = m0) (hi : i + 4 < L) (hk : k + 0 ≤ 600000 ∧ n + 0 ≤ 7302250) (hW : W_owe τ (xs (i + 1)) (xs (i + 2)) (xs (i + 3)) (xs (i + 4)) = some (r, τ1)) (hM : M_owe σ (xs (i + 1)) (xs (i + 2)) (xs (i + 3)) (xs (i + 4)) = some (r, σ1)) (kk : ∀ ad2, exL ad ad2 → AL z x 4 Q (k + 0 + 0) (n + 0 + 0) 2151 [(3, .int (Int32.ofNat i)), (1, .ref x0), (2, .ref m0), (0, .ref b)] [] (wX z σ1 ad2 τ1)) : AL z x 4 Q k n 1149 [(3, .int (Int32.ofNat i)), (1, .ref x0), (2, .ref m0), (0, .ref b)] [] (wX z σ ad τ) := by
  refine al_aload_n (j := 1) hC rfl rfl dL_law_1149 ?_
  refine al_aload_n (j := 3) hC rfl rfl dL_law_1150 ?_
  refine al_iload_n (j := 0) hC rfl rfl dL_law_1151 ?_
  refine al_iconst (v := 1) hC rfl dL_law_1152 ?_
  refine al_iadd hC dL_law_1153 ?_
  refine al_sld (j := i + 1) hC hX (Int32.ofNat_add i 1).symm (by omega) dL_law_1154 ?_
  refine al_aload_n (j := 3) hC rfl rfl dL_law_1155 ?_
  refine al_iload_n (j := 0) hC rfl rfl dL_law_1156 ?_
  refine al_iconst (v := 2) hC rfl dL_law_1157 ?_
  refine al_iadd hC dL_law_1158 ?_
  refine al_sld (j := i + 2) hC hX (Int32.ofNat_add i 2).symm (by omega) dL_law_1159 ?_
  refine al_aload_n (j := 3) hC rfl rfl dL_law_1160 ?_
  refine al_iload_n (j := 0) hC rfl rfl dL_law_1161 ?_
  refine al_iconst (v := 3) hC rfl dL_law_1162 ?_
  refine al_iadd hC dL_law_1163 ?_
  refine al_sld (j := i + 3) hC hX (Int32.ofNat_add i 3).symm (by omega) dL_law_1164 ?_
  refine al_aload_n (j := 3) hC rfl rfl dL_law_1165 ?_
  refine al_iload_n (j := 0) hC rfl rfl dL_law_1166 ?_
  refine al_iconst (v := 4) hC rfl dL_law_1167 ?_
  refine al_iadd hC dL_law_1168 ?_
  refine al_sld (j := i + 4) hC hX (Int32.ofNat_add i 4).symm (by omega) dL_law_1169 ?_
  refine al_callL (w := wX z σ) (As := [.int (xs (i + 1)), .int (xs (i + 2)), .int (xs (i + 3)), .int (xs (i + 4))]) (rest := []) (s0 := τ) (s1 := τ1) (r0 := r) (q := 36) hC hR lkl_105 (c_W_owe τ (xs (i + 1)) (xs (i + 2)) (xs (i + 3)) (xs (i + 4))) hW (fun _ _ h => eqA.L h) dL_law_1170 recX10 rfl rfl hx0 rfl ⟨by decide, by decide⟩ (Nat.le_of_ble_eq_true rfl) ⟨by omega, by omega⟩ ⟨_, rfl, fun _ => rfl⟩ (fun ad1 hE1 hC => ?_)
  have hm0 := (hE1 0 (by omega)).trans hm0
  show AL z x 4 Q (k + 0) (n + 0) _ _ _ (wM z τ1 ad1 σ)
  refine al_aload_n (j := 2) hC rfl rfl dL_law_1173 ?_
  refine al_aload_n (j := 3) hC rfl rfl dL_law_1174 ?_
  refine al_iload_n (j := 0) hC rfl rfl dL_law_1175 ?_
  refine al_iconst (v := 1) hC rfl dL_law_1176 ?_
  refine al_iadd hC dL_law_1177 ?_
  refine al_sld (j := i + 1) hC hX (Int32.ofNat_add i 1).symm (by omega) dL_law_1178 ?_
  refine al_aload_n (j := 3) hC rfl rfl dL_law_1179 ?_
  refine al_iload_n (j := 0) hC rfl rfl dL_law_1180 ?_
  refine al_iconst (v := 2) hC rfl dL_law_1181 ?_
  refine al_iadd hC dL_law_1182 ?_
  refine al_sld (j := i + 2) hC hX (Int32.ofNat_add i 2).symm (by omega) dL_law_1183 ?_
  refine al_aload_n (j := 3) hC rfl rfl dL_law_1184 ?_
  refine al_iload_n (j := 0) hC rfl rfl dL_law_1185 ?_
  refine al_iconst (v := 3) hC rfl dL_law_1186 ?_
  refine al_iadd hC dL_law_1187 ?_
  refine al_sld (j := i + 3) hC hX (Int32.ofNat_add i 3).symm (by omega) dL_law_1188 ?_
  refine al_aload_n (j := 3) hC rfl rfl dL_law_1189 ?_
  refine al_iload_n (j := 0) hC rfl rfl dL_law_1190 ?_
  refine al_iconst (v := 4) hC rfl dL_law_1191 ?_
  refine al_iadd hC dL_law_1192 ?_
  refine al_sld (j := i + 4) hC hX (Int32.ofNat_add i 4).symm (by omega) dL_law_1193 ?_
  refine al_callL (w := wM z τ1) (As := [.int (xs (i + 1)), .int (xs (i + 2)), .int (xs (i + 3)), .int (xs (i + 4))]) (rest := [.long r]) (s0 := σ) (s1 := σ1) (r0 := r) (q := 0) hC hR lkl_109 (c_M_owe σ (xs (i + 1)) (xs (i + 2)) (xs (i + 3)) (xs (i + 4))) hM (fun _ _ h => eqA.L h) dL_law_1194 recX11 rfl rfl hm0 rfl ⟨by decide, by decide⟩ (Nat.le_of_ble_eq_true rfl) ⟨by omega, by omega⟩ ⟨_, rfl, fun _ => rfl⟩ (fun ad2 hE2 hC => ?_)
  show AL z x 4 Q _ _ _ _ _ (wX z σ1 ad2 τ1)
  refine al_lcmp hC dL_law_1197 ?_
  rw [ict_eq]
  refine al_if_eq (tgt := 2151) hC dL_law_1198 rfl (fun _ => ?_) (fun g => absurd rfl g)
  exact kk ad2 (hE1.trans hE2)
theorem dL_law_1203 : decode code 1203 = .ok (.aload_n 1, 1) := by decide +kernel
theorem dL_law_1204 : decode code 1204 = .ok (.aload_n 0, 1) := by decide +kernel
theorem dL_law_1205 : decode code 1205 = .ok (.iload_n 3, 1) := by decide +kernel
theorem dL_law_1206 : decode code 1206 = .ok (.iconst 1, 1) := by decide +kernel
theorem dL_law_1207 : decode code 1207 = .ok (.iadd, 1) := by decide +kernel
theorem dL_law_1208 : decode code 1208 = .ok (.iaload, 1) := by decide +kernel
theorem dL_law_1209 : decode code 1209 = .ok (.aload_n 0, 1) := by decide +kernel
theorem dL_law_1210 : decode code 1210 = .ok (.iload_n 3, 1) := by decide +kernel
theorem dL_law_1211 : decode code 1211 = .ok (.iconst 2, 1) := by decide +kernel
theorem dL_law_1212 : decode code 1212 = .ok (.iadd, 1) := by decide +kernel
theorem dL_law_1213 : decode code 1213 = .ok (.iaload, 1) := by decide +kernel
theorem dL_law_1214 : decode code 1214 = .ok (.invokevirtual 110, 3) := by decide +kernel
theorem dL_law_1217 : decode code 1217 = .ok (.aload_n 2, 1) := by decide +kernel
theorem dL_law_1218 : decode code 1218 = .ok (.aload_n 0, 1) := by decide +kernel
theorem dL_law_1219 : decode code 1219 = .ok (.iload_n 3, 1) := by decide +kernel
theorem dL_law_1220 : decode code 1220 = .ok (.iconst 1, 1) := by decide +kernel
theorem dL_law_1221 : decode code 1221 = .ok (.iadd, 1) := by decide +kernel
theorem dL_law_1222 : decode code 1222 = .ok (.iaload, 1) := by decide +kernel
theorem dL_law_1223 : decode code 1223 = .ok (.aload_n 0, 1) := by decide +kernel
theorem dL_law_1224 : decode code 1224 = .ok (.iload_n 3, 1) := by decide +kernel
theorem dL_law_1225 : decode code 1225 = .ok (.iconst 2, 1) := by decide +kernel
theorem dL_law_1226 : decode code 1226 = .ok (.iadd, 1) := by decide +kernel
theorem dL_law_1227 : decode code 1227 = .ok (.iaload, 1) := by decide +kernel
theorem dL_law_1228 : decode code 1228 = .ok (.invokevirtual 114, 3) := by decide +kernel
theorem dL_law_1231 : decode code 1231 = .ok (.lcmp, 1) := by decide +kernel
theorem dL_law_1232 : decode code 1232 = .ok (.ifCond .eq 919, 3) := by decide +kernel
theorem dL_law_1235 : decode code 1235 = .ok (.iconst 0, 1) := by decide +kernel
theorem dL_law_1236 : decode code 1236 = .ok (.ireturn, 1) := by decide +kernel
set_option maxRecDepth 100000 in
theorem law_c22 {z : ZZ} {x : XX} {Q : State → Prop} {k n : Nat} {ad : Nat → Nat} {b L i x0 m0 : Nat} {xs : Nat → Int32} {σ σ1 : MS} {τ τ1 : XS} {r : Int64} (hC : CX z ad x code RL 4 ret) (hR : x.2.2.1 = room_1) (hX : SX z x b L xs) (hx0 : ad 36 = x0) (hm0 : ad 0 = m0) (hi : i + 4 < L) (hk : k + 0 ≤ 600000 ∧ n + 0 ≤ 7302250) (hW : W_vacant τ (xs (i + 1)) (xs (i + 2)) = some (r, τ1)) (hM : M_vacant σ (xs (i + 1)) (xs (i + 2)) = some (r, σ1)) (kk : ∀ ad2, exL ad ad2 → AL z x 4 Q (k + 0 + 0) (n + 0 + 0) 2151 [(3, .int (Int32.ofNat i)), (1, .ref x0), (2, .ref m0), (0, .ref b)] [] (wX z σ1 ad2 τ1)) : AL z x 4 Q k n 1203 [(3, .int (Int32.ofNat i)), (1, .ref x0), (2, .ref m0), (0, .ref b)] [] (wX z σ ad τ) := by
  refine al_aload_n (j := 1) hC rfl rfl dL_law_1203 ?_
  refine al_aload_n (j := 3) hC rfl rfl dL_law_1204 ?_
  refine al_iload_n (j := 0) hC rfl rfl dL_law_1205 ?_
  refine al_iconst (v := 1) hC rfl dL_law_1206 ?_
  refine al_iadd hC dL_law_1207 ?_
  refine al_sld (j := i + 1) hC hX (Int32.ofNat_add i 1).symm (by omega) dL_law_1208 ?_
  refine al_aload_n (j := 3) hC rfl rfl dL_law_1209 ?_
  refine al_iload_n (j := 0) hC rfl rfl dL_law_1210 ?_
  refine al_iconst (v := 2) hC rfl dL_law_1211 ?_
  refine al_iadd hC dL_law_1212 ?_
  refine al_sld (j := i + 2) hC hX (Int32.ofNat_add i 2).symm (by omega) dL_law_1213 ?_
  refine al_callL (w := wX z σ) (As := [.int (xs (i + 1)), .int (xs (i + 2))]) (rest := []) (s0 := τ) (s1 := τ1) (r0 := r) (q := 36) hC hR lkl_110 (c_W_vacant τ (xs (i + 1)) (xs (i + 2))) hW (fun _ _ h => eqA.L h) dL_law_1214 recX10 rfl rfl hx0 rfl ⟨by decide, by decide⟩ (Nat.le_of_ble_eq_true rfl) ⟨by omega, by omega⟩ ⟨_, rfl, fun _ => rfl⟩ (fun ad1 hE1 hC => ?_)
  have hm0 := (hE1 0 (by omega)).trans hm0
  show AL z x 4 Q (k + 0) (n + 0) _ _ _ (wM z τ1 ad1 σ)
  refine al_aload_n (j := 2) hC rfl rfl dL_law_1217 ?_
  refine al_aload_n (j := 3) hC rfl rfl dL_law_1218 ?_
  refine al_iload_n (j := 0) hC rfl rfl dL_law_1219 ?_
  refine al_iconst (v := 1) hC rfl dL_law_1220 ?_
  refine al_iadd hC dL_law_1221 ?_
  refine al_sld (j := i + 1) hC hX (Int32.ofNat_add i 1).symm (by omega) dL_law_1222 ?_
  refine al_aload_n (j := 3) hC rfl rfl dL_law_1223 ?_
  refine al_iload_n (j := 0) hC rfl rfl dL_law_1224 ?_
  refine al_iconst (v := 2) hC rfl dL_law_1225 ?_
  refine al_iadd hC dL_law_1226 ?_
  refine al_sld (j := i + 2) hC hX (Int32.ofNat_add i 2).symm (by omega) dL_law_1227 ?_
  refine al_callL (w := wM z τ1) (As := [.int (xs (i + 1)), .int (xs (i + 2))]) (rest := [.long r]) (s0 := σ) (s1 := σ1) (r0 := r) (q := 0) hC hR lkl_114 (c_M_vacant σ (xs (i + 1)) (xs (i + 2))) hM (fun _ _ h => eqA.L h) dL_law_1228 recX11 rfl rfl hm0 rfl ⟨by decide, by decide⟩ (Nat.le_of_ble_eq_true rfl) ⟨by omega, by omega⟩ ⟨_, rfl, fun _ => rfl⟩ (fun ad2 hE2 hC => ?_)
  show AL z x 4 Q _ _ _ _ _ (wX z σ1 ad2 τ1)
  refine al_lcmp hC dL_law_1231 ?_
  rw [ict_eq]
  refine al_if_eq (tgt := 2151) hC dL_law_1232 rfl (fun _ => ?_) (fun g => absurd rfl g)
  exact kk ad2 (hE1.trans hE2)
theorem dL_law_1237 : decode code 1237 = .ok (.aload_n 1, 1) := by decide +kernel
theorem dL_law_1238 : decode code 1238 = .ok (.aload_n 0, 1) := by decide +kernel
theorem dL_law_1239 : decode code 1239 = .ok (.iload_n 3, 1) := by decide +kernel
theorem dL_law_1240 : decode code 1240 = .ok (.iconst 1, 1) := by decide +kernel
theorem dL_law_1241 : decode code 1241 = .ok (.iadd, 1) := by decide +kernel
theorem dL_law_1242 : decode code 1242 = .ok (.iaload, 1) := by decide +kernel
theorem dL_law_1243 : decode code 1243 = .ok (.aload_n 0, 1) := by decide +kernel
theorem dL_law_1244 : decode code 1244 = .ok (.iload_n 3, 1) := by decide +kernel
theorem dL_law_1245 : decode code 1245 = .ok (.iconst 2, 1) := by decide +kernel
theorem dL_law_1246 : decode code 1246 = .ok (.iadd, 1) := by decide +kernel
theorem dL_law_1247 : decode code 1247 = .ok (.iaload, 1) := by decide +kernel
theorem dL_law_1248 : decode code 1248 = .ok (.aload_n 0, 1) := by decide +kernel
theorem dL_law_1249 : decode code 1249 = .ok (.iload_n 3, 1) := by decide +kernel
theorem dL_law_1250 : decode code 1250 = .ok (.iconst 3, 1) := by decide +kernel
theorem dL_law_1251 : decode code 1251 = .ok (.iadd, 1) := by decide +kernel
theorem dL_law_1252 : decode code 1252 = .ok (.iaload, 1) := by decide +kernel
theorem dL_law_1253 : decode code 1253 = .ok (.invokevirtual 115, 3) := by decide +kernel
theorem dL_law_1256 : decode code 1256 = .ok (.aload_n 2, 1) := by decide +kernel
theorem dL_law_1257 : decode code 1257 = .ok (.aload_n 0, 1) := by decide +kernel
theorem dL_law_1258 : decode code 1258 = .ok (.iload_n 3, 1) := by decide +kernel
theorem dL_law_1259 : decode code 1259 = .ok (.iconst 1, 1) := by decide +kernel
theorem dL_law_1260 : decode code 1260 = .ok (.iadd, 1) := by decide +kernel
theorem dL_law_1261 : decode code 1261 = .ok (.iaload, 1) := by decide +kernel
theorem dL_law_1262 : decode code 1262 = .ok (.aload_n 0, 1) := by decide +kernel
theorem dL_law_1263 : decode code 1263 = .ok (.iload_n 3, 1) := by decide +kernel
theorem dL_law_1264 : decode code 1264 = .ok (.iconst 2, 1) := by decide +kernel
theorem dL_law_1265 : decode code 1265 = .ok (.iadd, 1) := by decide +kernel
theorem dL_law_1266 : decode code 1266 = .ok (.iaload, 1) := by decide +kernel
theorem dL_law_1267 : decode code 1267 = .ok (.aload_n 0, 1) := by decide +kernel
theorem dL_law_1268 : decode code 1268 = .ok (.iload_n 3, 1) := by decide +kernel
theorem dL_law_1269 : decode code 1269 = .ok (.iconst 3, 1) := by decide +kernel
theorem dL_law_1270 : decode code 1270 = .ok (.iadd, 1) := by decide +kernel
theorem dL_law_1271 : decode code 1271 = .ok (.iaload, 1) := by decide +kernel
theorem dL_law_1272 : decode code 1272 = .ok (.invokevirtual 119, 3) := by decide +kernel
theorem dL_law_1275 : decode code 1275 = .ok (.lcmp, 1) := by decide +kernel
theorem dL_law_1276 : decode code 1276 = .ok (.ifCond .eq 875, 3) := by decide +kernel
theorem dL_law_1279 : decode code 1279 = .ok (.iconst 0, 1) := by decide +kernel
theorem dL_law_1280 : decode code 1280 = .ok (.ireturn, 1) := by decide +kernel
set_option maxRecDepth 100000 in
theorem law_c23 {z : ZZ} {x : XX} {Q : State → Prop} {k n : Nat} {ad : Nat → Nat} {b L i x0 m0 : Nat} {xs : Nat → Int32} {σ σ1 : MS} {τ τ1 : XS} {r : Int64} (hC : CX z ad x code RL 4 ret) (hR : x.2.2.1 = room_1) (hX : SX z x b L xs) (hx0 : ad 36 = x0) (hm0 : ad 0 = m0) (hi : i + 4 < L) (hk : k + 0 ≤ 600000 ∧ n + 0 ≤ 7302250) (hW : W_rent τ (xs (i + 1)) (xs (i + 2)) (xs (i + 3)) = some (r, τ1)) (hM : M_rent σ (xs (i + 1)) (xs (i + 2)) (xs (i + 3)) = some (r, σ1)) (kk : ∀ ad2, exL ad ad2 → AL z x 4 Q (k + 0 + 0) (n + 0 + 0) 2151 [(3, .int (Int32.ofNat i)), (1, .ref x0), (2, .ref m0), (0, .ref b)] [] (wX z σ1 ad2 τ1)) : AL z x 4 Q k n 1237 [(3, .int (Int32.ofNat i)), (1, .ref x0), (2, .ref m0), (0, .ref b)] [] (wX z σ ad τ) := by
  refine al_aload_n (j := 1) hC rfl rfl dL_law_1237 ?_
  refine al_aload_n (j := 3) hC rfl rfl dL_law_1238 ?_
  refine al_iload_n (j := 0) hC rfl rfl dL_law_1239 ?_
  refine al_iconst (v := 1) hC rfl dL_law_1240 ?_
  refine al_iadd hC dL_law_1241 ?_
  refine al_sld (j := i + 1) hC hX (Int32.ofNat_add i 1).symm (by omega) dL_law_1242 ?_
  refine al_aload_n (j := 3) hC rfl rfl dL_law_1243 ?_
  refine al_iload_n (j := 0) hC rfl rfl dL_law_1244 ?_
  refine al_iconst (v := 2) hC rfl dL_law_1245 ?_
  refine al_iadd hC dL_law_1246 ?_
  refine al_sld (j := i + 2) hC hX (Int32.ofNat_add i 2).symm (by omega) dL_law_1247 ?_
  refine al_aload_n (j := 3) hC rfl rfl dL_law_1248 ?_
  refine al_iload_n (j := 0) hC rfl rfl dL_law_1249 ?_
  refine al_iconst (v := 3) hC rfl dL_law_1250 ?_
  refine al_iadd hC dL_law_1251 ?_
  refine al_sld (j := i + 3) hC hX (Int32.ofNat_add i 3).symm (by omega) dL_law_1252 ?_
  refine al_callL (w := wX z σ) (As := [.int (xs (i + 1)), .int (xs (i + 2)), .int (xs (i + 3))]) (rest := []) (s0 := τ) (s1 := τ1) (r0 := r) (q := 36) hC hR lkl_115 (c_W_rent τ (xs (i + 1)) (xs (i + 2)) (xs (i + 3))) hW (fun _ _ h => eqA.L h) dL_law_1253 recX10 rfl rfl hx0 rfl ⟨by decide, by decide⟩ (Nat.le_of_ble_eq_true rfl) ⟨by omega, by omega⟩ ⟨_, rfl, fun _ => rfl⟩ (fun ad1 hE1 hC => ?_)
  have hm0 := (hE1 0 (by omega)).trans hm0
  show AL z x 4 Q (k + 0) (n + 0) _ _ _ (wM z τ1 ad1 σ)
  refine al_aload_n (j := 2) hC rfl rfl dL_law_1256 ?_
  refine al_aload_n (j := 3) hC rfl rfl dL_law_1257 ?_
  refine al_iload_n (j := 0) hC rfl rfl dL_law_1258 ?_
  refine al_iconst (v := 1) hC rfl dL_law_1259 ?_
  refine al_iadd hC dL_law_1260 ?_
  refine al_sld (j := i + 1) hC hX (Int32.ofNat_add i 1).symm (by omega) dL_law_1261 ?_
  refine al_aload_n (j := 3) hC rfl rfl dL_law_1262 ?_
  refine al_iload_n (j := 0) hC rfl rfl dL_law_1263 ?_
  refine al_iconst (v := 2) hC rfl dL_law_1264 ?_
  refine al_iadd hC dL_law_1265 ?_
  refine al_sld (j := i + 2) hC hX (Int32.ofNat_add i 2).symm (by omega) dL_law_1266 ?_
  refine al_aload_n (j := 3) hC rfl rfl dL_law_1267 ?_
  refine al_iload_n (j := 0) hC rfl rfl dL_law_1268 ?_
  refine al_iconst (v := 3) hC rfl dL_law_1269 ?_
  refine al_iadd hC dL_law_1270 ?_
  refine al_sld (j := i + 3) hC hX (Int32.ofNat_add i 3).symm (by omega) dL_law_1271 ?_
  refine al_callL (w := wM z τ1) (As := [.int (xs (i + 1)), .int (xs (i + 2)), .int (xs (i + 3))]) (rest := [.long r]) (s0 := σ) (s1 := σ1) (r0 := r) (q := 0) hC hR lkl_119 (c_M_rent σ (xs (i + 1)) (xs (i + 2)) (xs (i + 3))) hM (fun _ _ h => eqA.L h) dL_law_1272 recX11 rfl rfl hm0 rfl ⟨by decide, by decide⟩ (Nat.le_of_ble_eq_true rfl) ⟨by omega, by omega⟩ ⟨_, rfl, fun _ => rfl⟩ (fun ad2 hE2 hC => ?_)
  show AL z x 4 Q _ _ _ _ _ (wX z σ1 ad2 τ1)
  refine al_lcmp hC dL_law_1275 ?_
  rw [ict_eq]
  refine al_if_eq (tgt := 2151) hC dL_law_1276 rfl (fun _ => ?_) (fun g => absurd rfl g)
  exact kk ad2 (hE1.trans hE2)
