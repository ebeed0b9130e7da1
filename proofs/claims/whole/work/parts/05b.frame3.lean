theorem dJ0_length_8abf5_0 : decode cJ0_length_8abf5 0 = .ok (.aload_n 0, 1) := by decide +kernel
theorem dJ0_length_8abf5_1 : decode cJ0_length_8abf5 1 = .ok (.getfield 9, 3) := by decide +kernel
theorem dJ0_length_8abf5_4 : decode cJ0_length_8abf5 4 = .ok (.arraylength, 1) := by decide +kernel
theorem dJ0_length_8abf5_5 : decode cJ0_length_8abf5 5 = .ok (.aload_n 0, 1) := by decide +kernel
theorem dJ0_length_8abf5_6 : decode cJ0_length_8abf5 6 = .ok (.invokevirtual 335, 3) := by decide +kernel
theorem dJ0_length_8abf5_9 : decode cJ0_length_8abf5 9 = .ok (.ishr, 1) := by decide +kernel
theorem dJ0_length_8abf5_10 : decode cJ0_length_8abf5 10 = .ok (.ireturn, 1) := by decide +kernel
theorem dJ0_charAt_5068e_0 : decode cJ0_charAt_5068e 0 = .ok (.aload_n 0, 1) := by decide +kernel
theorem dJ0_charAt_5068e_1 : decode cJ0_charAt_5068e 1 = .ok (.invokevirtual 492, 3) := by decide +kernel
theorem dJ0_charAt_5068e_4 : decode cJ0_charAt_5068e 4 = .ok (.ifCond .eq 12, 3) := by decide +kernel
theorem dJ0_charAt_5068e_7 : decode cJ0_charAt_5068e 7 = .ok (.aload_n 0, 1) := by decide +kernel
theorem dJ0_charAt_5068e_8 : decode cJ0_charAt_5068e 8 = .ok (.getfield 9, 3) := by decide +kernel
theorem dJ0_charAt_5068e_11 : decode cJ0_charAt_5068e 11 = .ok (.iload_n 1, 1) := by decide +kernel
theorem dJ0_charAt_5068e_12 : decode cJ0_charAt_5068e 12 = .ok (.invokestatic 495, 3) := by decide +kernel
theorem dJ0_charAt_5068e_15 : decode cJ0_charAt_5068e 15 = .ok (.ireturn, 1) := by decide +kernel
theorem dJ0_charAt_5068e_16 : decode cJ0_charAt_5068e 16 = .ok (.aload_n 0, 1) := by decide +kernel
theorem dJ0_charAt_5068e_17 : decode cJ0_charAt_5068e 17 = .ok (.getfield 9, 3) := by decide +kernel
theorem dJ0_charAt_5068e_20 : decode cJ0_charAt_5068e 20 = .ok (.iload_n 1, 1) := by decide +kernel
theorem dJ0_charAt_5068e_21 : decode cJ0_charAt_5068e 21 = .ok (.invokestatic 498, 3) := by decide +kernel
theorem dJ0_charAt_5068e_24 : decode cJ0_charAt_5068e 24 = .ok (.ireturn, 1) := by decide +kernel
theorem dJ0_coder_7d493_0 : decode cJ0_coder_7d493 0 = .ok (.getstatic 38, 3) := by decide +kernel
theorem dJ0_coder_7d493_3 : decode cJ0_coder_7d493 3 = .ok (.ifCond .eq 10, 3) := by decide +kernel
theorem dJ0_coder_7d493_6 : decode cJ0_coder_7d493 6 = .ok (.aload_n 0, 1) := by decide +kernel
theorem dJ0_coder_7d493_7 : decode cJ0_coder_7d493 7 = .ok (.getfield 15, 3) := by decide +kernel
theorem dJ0_coder_7d493_10 : decode cJ0_coder_7d493 10 = .ok (.goto 4, 3) := by decide +kernel
theorem dJ0_coder_7d493_13 : decode cJ0_coder_7d493 13 = .ok (.iconst 1, 1) := by decide +kernel
theorem dJ0_coder_7d493_14 : decode cJ0_coder_7d493 14 = .ok (.ireturn, 1) := by decide +kernel
theorem dJ0_isLatin1_aae02_0 : decode cJ0_isLatin1_aae02 0 = .ok (.getstatic 38, 3) := by decide +kernel
theorem dJ0_isLatin1_aae02_3 : decode cJ0_isLatin1_aae02 3 = .ok (.ifCond .eq 14, 3) := by decide +kernel
theorem dJ0_isLatin1_aae02_6 : decode cJ0_isLatin1_aae02 6 = .ok (.aload_n 0, 1) := by decide +kernel
theorem dJ0_isLatin1_aae02_7 : decode cJ0_isLatin1_aae02 7 = .ok (.getfield 15, 3) := by decide +kernel
theorem dJ0_isLatin1_aae02_10 : decode cJ0_isLatin1_aae02 10 = .ok (.ifCond .ne 7, 3) := by decide +kernel
theorem dJ0_isLatin1_aae02_13 : decode cJ0_isLatin1_aae02 13 = .ok (.iconst 1, 1) := by decide +kernel
theorem dJ0_isLatin1_aae02_14 : decode cJ0_isLatin1_aae02 14 = .ok (.goto 4, 3) := by decide +kernel
theorem dJ0_isLatin1_aae02_17 : decode cJ0_isLatin1_aae02 17 = .ok (.iconst 0, 1) := by decide +kernel
theorem dJ0_isLatin1_aae02_18 : decode cJ0_isLatin1_aae02 18 = .ok (.ireturn, 1) := by decide +kernel
theorem dJ0_checkIndex_df160_0 : decode cJ0_checkIndex_df160 0 = .ok (.iload_n 0, 1) := by decide +kernel
theorem dJ0_checkIndex_df160_1 : decode cJ0_checkIndex_df160 1 = .ok (.iload_n 1, 1) := by decide +kernel
theorem dJ0_checkIndex_df160_2 : decode cJ0_checkIndex_df160 2 = .ok (.getstatic 1053, 3) := by decide +kernel
theorem dJ0_checkIndex_df160_5 : decode cJ0_checkIndex_df160 5 = .ok (.invokestatic 1059, 3) := by decide +kernel
theorem dJ0_checkIndex_df160_8 : decode cJ0_checkIndex_df160 8 = .ok (.pop, 1) := by decide +kernel
theorem dJ0_checkIndex_df160_9 : decode cJ0_checkIndex_df160 9 = .ok (.return_, 1) := by decide +kernel
theorem dJ1_charAt_3b067_0 : decode cJ1_charAt_3b067 0 = .ok (.iload_n 1, 1) := by decide +kernel
theorem dJ1_charAt_3b067_1 : decode cJ1_charAt_3b067 1 = .ok (.aload_n 0, 1) := by decide +kernel
theorem dJ1_charAt_3b067_2 : decode cJ1_charAt_3b067 2 = .ok (.arraylength, 1) := by decide +kernel
theorem dJ1_charAt_3b067_3 : decode cJ1_charAt_3b067 3 = .ok (.invokestatic 9, 3) := by decide +kernel
theorem dJ1_charAt_3b067_6 : decode cJ1_charAt_3b067 6 = .ok (.aload_n 0, 1) := by decide +kernel
theorem dJ1_charAt_3b067_7 : decode cJ1_charAt_3b067 7 = .ok (.iload_n 1, 1) := by decide +kernel
theorem dJ1_charAt_3b067_8 : decode cJ1_charAt_3b067 8 = .ok (.baload, 1) := by decide +kernel
theorem dJ1_charAt_3b067_9 : decode cJ1_charAt_3b067 9 = .ok (.sipush 255, 3) := by decide +kernel
theorem dJ1_charAt_3b067_12 : decode cJ1_charAt_3b067 12 = .ok (.iand, 1) := by decide +kernel
theorem dJ1_charAt_3b067_13 : decode cJ1_charAt_3b067 13 = .ok (.i2c, 1) := by decide +kernel
theorem dJ1_charAt_3b067_14 : decode cJ1_charAt_3b067 14 = .ok (.ireturn, 1) := by decide +kernel
theorem dJ3_checkIndex_8e157_0 : decode cJ3_checkIndex_8e157 0 = .ok (.iload_n 0, 1) := by decide +kernel
theorem dJ3_checkIndex_8e157_1 : decode cJ3_checkIndex_8e157 1 = .ok (.ifCond .lt 8, 3) := by decide +kernel
theorem dJ3_checkIndex_8e157_4 : decode cJ3_checkIndex_8e157 4 = .ok (.iload_n 0, 1) := by decide +kernel
theorem dJ3_checkIndex_8e157_5 : decode cJ3_checkIndex_8e157 5 = .ok (.iload_n 1, 1) := by decide +kernel
theorem dJ3_checkIndex_8e157_6 : decode cJ3_checkIndex_8e157 6 = .ok (.if_icmp .lt 10, 3) := by decide +kernel
theorem dJ3_checkIndex_8e157_9 : decode cJ3_checkIndex_8e157 9 = .ok (.aload_n 2, 1) := by decide +kernel
theorem dJ3_checkIndex_8e157_10 : decode cJ3_checkIndex_8e157 10 = .ok (.iload_n 0, 1) := by decide +kernel
theorem dJ3_checkIndex_8e157_11 : decode cJ3_checkIndex_8e157 11 = .ok (.iload_n 1, 1) := by decide +kernel
theorem dJ3_checkIndex_8e157_12 : decode cJ3_checkIndex_8e157 12 = .ok (.invokestatic 95, 3) := by decide +kernel
theorem dJ3_checkIndex_8e157_15 : decode cJ3_checkIndex_8e157 15 = .ok (.athrow, 1) := by decide +kernel
theorem dJ3_checkIndex_8e157_16 : decode cJ3_checkIndex_8e157 16 = .ok (.iload_n 0, 1) := by decide +kernel
theorem dJ3_checkIndex_8e157_17 : decode cJ3_checkIndex_8e157 17 = .ok (.ireturn, 1) := by decide +kernel
theorem dJ7_fill_53178_0 : decode cJ7_fill_53178 0 = .ok (.iconst 0, 1) := by decide +kernel
theorem dJ7_fill_53178_1 : decode cJ7_fill_53178 1 = .ok (.istore_n 2, 1) := by decide +kernel
theorem dJ7_fill_53178_2 : decode cJ7_fill_53178 2 = .ok (.aload_n 0, 1) := by decide +kernel
theorem dJ7_fill_53178_3 : decode cJ7_fill_53178 3 = .ok (.arraylength, 1) := by decide +kernel
theorem dJ7_fill_53178_4 : decode cJ7_fill_53178 4 = .ok (.istore_n 3, 1) := by decide +kernel
theorem dJ7_fill_53178_5 : decode cJ7_fill_53178 5 = .ok (.iload_n 2, 1) := by decide +kernel
theorem dJ7_fill_53178_6 : decode cJ7_fill_53178 6 = .ok (.iload_n 3, 1) := by decide +kernel
theorem dJ7_fill_53178_7 : decode cJ7_fill_53178 7 = .ok (.if_icmp .ge 13, 3) := by decide +kernel
theorem dJ7_fill_53178_10 : decode cJ7_fill_53178 10 = .ok (.aload_n 0, 1) := by decide +kernel
theorem dJ7_fill_53178_11 : decode cJ7_fill_53178 11 = .ok (.iload_n 2, 1) := by decide +kernel
theorem dJ7_fill_53178_12 : decode cJ7_fill_53178 12 = .ok (.iload_n 1, 1) := by decide +kernel
theorem dJ7_fill_53178_13 : decode cJ7_fill_53178 13 = .ok (.iastore, 1) := by decide +kernel
theorem dJ7_fill_53178_14 : decode cJ7_fill_53178 14 = .ok (.iinc 2 1, 3) := by decide +kernel
theorem dJ7_fill_53178_17 : decode cJ7_fill_53178 17 = .ok (.goto (-12), 3) := by decide +kernel
theorem dJ7_fill_53178_20 : decode cJ7_fill_53178 20 = .ok (.return_, 1) := by decide +kernel
def strL (q : Nat) : Option Int32 := if 1000000 ≤ q ∧ q < 1000020 then some (Int32.ofNat (strLen.getD (q - 1000000) 0)) else none
def strC (q : Nat) (i : Int32) : Option Int32 := if 1000000 ≤ q ∧ q < 1000020 ∧ ¬ (i < 0 ∨ strLen.getD (q - 1000000) 0 ≤ i.toNatClampNeg) then some ((strByt.getD (q - 1000000) []).getD i.toNatClampNeg 0) else none
theorem str_len : ∀ k, k < 20 → strLen.getD k 0 < 100 := by decide
theorem str_byt : ∀ k, k < 20 → ∀ j, j < strLen.getD k 0 → ((((strByt.getD k []).getD j 0) &&& 255).toUInt32 % 65536).toInt32 = (strByt.getD k []).getD j 0 ∧ narrow .char (.int ((strByt.getD k []).getD j 0)) = .int ((strByt.getD k []).getD j 0) := by decide +kernel
theorem strL_of {q : Nat} {r : Int32} (h : strL q = some r) : ∃ k, k < 20 ∧ q = 1000000 + k ∧ r = Int32.ofNat (strLen.getD k 0) := by
  unfold strL at h
  split at h
  · next g => exact ⟨q - 1000000, by omega, by omega, (Option.some.inj h).symm⟩
  · cases h
theorem strC_of {q : Nat} {i r : Int32} (h : strC q i = some r) : ∃ k, k < 20 ∧ q = 1000000 + k ∧ vp_in i (strLen.getD k 0) ∧ r = (strByt.getD k []).getD i.toNatClampNeg 0 := by
  unfold strC at h
  split at h
  · next g => exact ⟨q - 1000000, by omega, by omega, g.2.2, (Option.some.inj h).symm⟩
  · cases h
section F3
variable {S ρ : Type} {z : ZZ} {x : XX} {nL : Nat} {w : (Nat → Nat) → S → va_W} {ra : ρ → Option Value} {F : (Nat → Nat) → Prop} {mc ms k n : Nat} {ad : Nat → Nat} {pc : Nat} {lv : List (Nat × Value)} {st : List Value} {σ σ1 : S} {d d1 d2 : Option (ρ × S)} {cc : ByteArray} {own : String} {ret : Option FieldType}
theorem at_ldcS (hC : CX z ad x cc own nL ret) (j : Nat) {i q m : Nat} {tx : String} (hj : strTab[j]? = some (own, i, tx, q)) (hm : 1000000 + q = m) (hd : decode cc pc = .ok (.ldc i, 2)) (kk : AT z x nL w ra F mc ms k n ad (pc + 2) lv (.ref m :: st) σ d) : AT z x nL w ra F mc ms k n ad pc lv st σ d := by
  intro r σ' hd' H locs ls hP hD hS hl
  subst hm
  exact va_ldcS hC.1 hC.2.1 hC.2.2.2.2.1 (hC.2.2.2.2.2.2.2.2.2.2.1 _ (List.mem_of_getElem? hj)) hd (kk r σ' hd' H locs ls hP hD hS hl)
theorem at_ldcwS (hC : CX z ad x cc own nL ret) (j : Nat) {i q m : Nat} {tx : String} (hj : strTab[j]? = some (own, i, tx, q)) (hm : 1000000 + q = m) (hd : decode cc pc = .ok (.ldc_w i, 3)) (kk : AT z x nL w ra F mc ms k n ad (pc + 3) lv (.ref m :: st) σ d) : AT z x nL w ra F mc ms k n ad pc lv st σ d := by
  intro r σ' hd' H locs ls hP hD hS hl
  subst hm
  intro T hT X
  obtain ⟨t, a1, b1⟩ := kk r σ' hd' H locs ls hP hD hS hl T hT X
  have hz := hC.2.2.2.2.2.2.2.2.2.2.1 _ (List.mem_of_getElem? hj)
  exact ⟨t, X.ldcStringW hC.1 hC.2.2.2.2.1 (text := tx) (a := ad (1000000 + q)) hz.1 hz.2 (g := F0 x.2.2.2.2.1 pc ls (st.map (cv ad))) rfl (by rw [hC.2.1]; exact hd) t a1, b1⟩
theorem at_dup2 (hC : CX z ad x cc own nL ret) {va vb : Value} (ha : va.category = 1) (hb : vb.category = 1) (hd : decode cc pc = .ok (.dup2, 1)) (kk : AT z x nL w ra F mc ms k n ad (pc + 1) lv (va :: vb :: va :: vb :: st) σ d) : AT z x nL w ra F mc ms k n ad pc lv (va :: vb :: st) σ d := by
  intro r σ' hd' H locs ls hP hD hS hl
  exact lv_dup2_11 hC.1 hC.2.1 hd (by rw [cv_cat]; exact ha) (by rw [cv_cat]; exact hb) (kk r σ' hd' H locs ls hP hD hS hl)
theorem at_iushr (hC : CX z ad x cc own nL ret) {a b : Int32} (hd : decode cc pc = .ok (.iushr, 1)) (kk : AT z x nL w ra F mc ms k n ad (pc + 1) lv (.int ((a.toUInt32 >>> (b.toUInt32 &&& Int32.toUInt32 31)).toInt32) :: st) σ d) : AT z x nL w ra F mc ms k n ad pc lv (.int b :: .int a :: st) σ d := by
  intro r σ' hd' H locs ls hP hD hS hl
  exact lv_iushr hC.1 hC.2.1 hd rfl (kk r σ' hd' H locs ls hP hD hS hl)
theorem at_gets (hC : CX z ad x cc own nL ret) {C nn dd : String} {v : Value} {i : Nat} (hz : va_Z C nn dd (cv ad v) (zA z) x.2.2.2.1 x.2.2.2.1.heap) (hlk : Cond.fieldLink own i C nn dd ∈ GW) (hd : decode cc pc = .ok (.getstatic i, 3)) (kk : AT z x nL w ra F mc ms k n ad (pc + 3) lv (v :: st) σ d) : AT z x nL w ra F mc ms k n ad pc lv st σ d := by
  intro r σ' hd' H locs ls hP hD hS hl
  exact va_gets hC.1 hC.2.1 hz hS hC.2.2.2.2.1 (hC.2.2.2.2.2.1 _ hlk) (fun _ h => h) hd (kk r σ' hd' H locs ls hP hD hS hl)
theorem at_getK (hC : CX z ad x cc own nL ret) {i : Nat} (hlk : Cond.fieldLink own i RX10 "KIND_ABOVE" "[I" ∈ GW) (hd : decode cc pc = .ok (.getstatic i, 3)) (kk : AT z x nL w ra F mc ms k n ad (pc + 3) lv (.ref 2000000 :: st) σ d) : AT z x nL w ra F mc ms k n ad pc lv st σ d := at_gets (v := .ref 2000000) hC hC.2.2.2.2.2.2.2.2.2.2.2.1 hlk hd kk
theorem at_lenK (hC : CX z ad x cc own nL ret) (hd : decode cc pc = .ok (.arraylength, 1)) (kk : AT z x nL w ra F mc ms k n ad (pc + 1) lv (.int 7 :: st) σ d) : AT z x nL w ra F mc ms k n ad pc lv (.ref 2000000 :: st) σ d := by
  intro r σ' hd' H locs ls hP hD hS hl
  exact va_tlen hC.1 hC.2.1 hC.2.2.2.2.2.2.2.2.2.2.2.2.1 hS rfl hd (kk r σ' hd' H locs ls hP hD hS hl)
theorem at_ialdK (hC : CX z ad x cc own nL ret) {i : Int32} {kd : Int32 → Option (ρ × S)} (hd : decode cc pc = .ok (.iaload, 1)) (kk : ∀ v : Int32, AT z x nL w ra F mc ms k n ad (pc + 1) lv (.int v :: st) σ (kd v)) : AT z x nL w ra F mc ms k n ad pc lv (.int i :: .ref 2000000 :: st) σ (rd kab 7 i kd) := by
  intro r σ' hd' H locs ls hP hD hS hl
  unfold rd at hd'
  split at hd'
  · cases hd'
  · next h => exact va_ti hC.1 hC.2.1 hC.2.2.2.2.2.2.2.2.2.2.2.2.1 hS h rfl hd (kk _ r σ' hd' H locs ls hP hD hS hl)
theorem at_getSv (hC : CX z ad x cc own nL ret) {i q : Nat} (hq : q < 20) (hlk : Cond.fieldLink own i RJ0 "value" "[B" ∈ GW) (hd : decode cc pc = .ok (.getfield i, 3)) (kk : AT z x nL w ra F mc ms k n ad (pc + 3) lv (.ref (3000000 + q) :: st) σ d) : AT z x nL w ra F mc ms k n ad pc lv (.ref (1000000 + q) :: st) σ d := by
  intro r σ' hd' H locs ls hP hD hS hl
  exact vk_getf hC.1 hC.2.1 (hC.2.2.2.2.2.2.2.2.2.1.1 q hq).2.2.1 hS hC.2.2.2.2.1 (hC.2.2.2.2.2.1 _ hlk) (fun _ h => h) hd (kk r σ' hd' H locs ls hP hD hS hl)
theorem at_getSc (hC : CX z ad x cc own nL ret) {i q : Nat} (hq : q < 20) (hlk : Cond.fieldLink own i RJ0 "coder" "B" ∈ GW) (hd : decode cc pc = .ok (.getfield i, 3)) (kk : AT z x nL w ra F mc ms k n ad (pc + 3) lv (.int 0 :: st) σ d) : AT z x nL w ra F mc ms k n ad pc lv (.ref (1000000 + q) :: st) σ d := by
  intro r σ' hd' H locs ls hP hD hS hl
  exact vk_getf hC.1 hC.2.1 (hC.2.2.2.2.2.2.2.2.2.1.1 q hq).2.1 hS hC.2.2.2.2.1 (hC.2.2.2.2.2.1 _ hlk) (fun _ h => h) hd (kk r σ' hd' H locs ls hP hD hS hl)
theorem at_lenS (hC : CX z ad x cc own nL ret) {q : Nat} (hq : q < 20) (hd : decode cc pc = .ok (.arraylength, 1)) (kk : AT z x nL w ra F mc ms k n ad (pc + 1) lv (.int (Int32.ofNat (strLen.getD q 0)) :: st) σ d) : AT z x nL w ra F mc ms k n ad pc lv (.ref (3000000 + q) :: st) σ d := by
  intro r σ' hd' H locs ls hP hD hS hl
  exact va_tlen hC.1 hC.2.1 (hC.2.2.2.2.2.2.2.2.2.1.1 q hq).2.2.2 hS rfl hd (kk r σ' hd' H locs ls hP hD hS hl)
theorem at_baldS (hC : CX z ad x cc own nL ret) {q : Nat} {i : Int32} (hq : q < 20) (hi : vp_in i (strLen.getD q 0)) (hd : decode cc pc = .ok (.baload, 1)) (kk : AT z x nL w ra F mc ms k n ad (pc + 1) lv (.int ((strByt.getD q []).getD i.toNatClampNeg 0) :: st) σ d) : AT z x nL w ra F mc ms k n ad pc lv (.int i :: .ref (3000000 + q) :: st) σ d := by
  intro r σ' hd' H locs ls hP hD hS hl
  exact va_tb hC.1 hC.2.1 (hC.2.2.2.2.2.2.2.2.2.1.1 q hq).2.2.2 hS hi rfl hd (kk r σ' hd' H locs ls hP hD hS hl)
theorem at_i2c (hC : CX z ad x cc own nL ret) {a v : Int32} (hv : (a.toUInt32 % 65536).toInt32 = v) (hd : decode cc pc = .ok (.i2c, 1)) (kk : AT z x nL w ra F mc ms k n ad (pc + 1) lv (.int v :: st) σ d) : AT z x nL w ra F mc ms k n ad pc lv (.int a :: st) σ d := by
  intro r σ' hd' H locs ls hP hD hS hl
  exact lv_i2c hC.1 hC.2.1 hd hv (kk r σ' hd' H locs ls hP hD hS hl)
theorem at_nret {ty : FieldType} (hC : CX z ad x cc own nL (some ty)) {v : Int32} (hn : narrow ty (.int v) = .int v) (hd : decode cc pc = .ok (.ireturn, 1)) (hF : F ad) (h1 : k ≤ mc) (h2 : n ≤ ms) {r0 : ρ} (hr0 : ra r0 = some (.int v)) : AT z x nL w ra F mc ms k n ad pc lv [.int v] σ (some (r0, σ)) := by
  intro r σ' hd' H locs ls hP hD hS hl
  cases hd'
  refine W.widen h1 h2 ?_
  exact W.zret hC.1 hC.2.1 hC.2.2.1 hn (fun t ht hW => ⟨⟨ad, hF, by rw [hr0]; rfl, by rw [ht]; exact hP, hD⟩, hS.F ht⟩) hS.2.2 hd hC.2.2.2.2.2.2.1

theorem at_callT (hC : CX z ad x cc own nL ret) {h mcR msR : Nat} (hR : x.2.2.1 = rmk h mcR msR) {ρ' : Type} {ra' : ρ' → Option Value} {y : MethodName} {cc' : ByteArray} {maxL' : Nat} {ret' : Option FieldType} {h' idx na q : Nat} {As rest : List Value} {f : Option ρ'} {kd : ρ' → Option (ρ × S)} (lk : LkV own idx y cc' maxL' ret' na) (hy : y.cls = RJ0) (hM : Ct z w ra' eqA y cc' maxL' ret' h' 0 0 (.ref (1000000 + q) :: As) σ (f.map fun r => (r, σ))) (hd : decode cc pc = .ok (.invokevirtual idx, 3)) (hq : q < 20) (hn : As.length = na) (hst : st = As.reverse ++ .ref (1000000 + q) :: rest) (hh : h' + 1 ≤ h ∧ maxL' ≤ 45) (hW : (rest.map fun v => v.category).sum ≤ 8) (hk : k ≤ mcR ∧ n ≤ msR) (kk : ∀ r, f = some r → AT z x nL w ra F mc ms k n ad (pc + 3) lv ((ra' r).toList ++ rest) σ (kd r)) : AT z x nL w ra F mc ms k n ad pc lv st σ (f.bind kd) := by
  intro r σ' hd' H locs ls hP hD hS hl
  cases hf : f with
  | none => rw [hf] at hd'; cases hd'
  | some r0 =>
    rw [hf] at hd'
    subst hst
    have hcw := (hC.2.2.2.2.2.1)
    have hroom : (rmk h' 0 0).frames + 1 ≤ x.2.2.1.frames ∧ 8 + (maxL' + 11) + (rmk h' 0 0).locals ≤ x.2.2.1.locals := by
      rw [hR]; simp only [rmk]; omega
    have hcs : k + 0 ≤ x.2.2.1.cells ∧ n + 0 ≤ x.2.2.1.slots := by
      rw [hR]; simp only [rmk]; omega
    refine callQ (σ1 := σ) (va_runV (As := As.map (cv ad)) (rest := rest.map (cv ad)) (C := y.cls) (b := ad (1000000 + q)) ⟨hC.1, hC.2.1, hC.2.2.2.1, hC.2.2.2.2.1, hcw⟩ (hM r0 σ (by rw [hf]; rfl) ad) (cwV na hcw (gi_cons lk.1 (gi_cons lk.2.1 (gi_cons lk.2.2.1 (gi_cons lk.2.2.2.1 (gi_cons lk.2.2.2.2.1 gi_self))))) rfl rfl rfl ⟨rfl, lk.2.2.2.2.2.1.1, lk.2.2.2.2.2.1.2, lk.2.2.2.2.2.2⟩ hroom) ⟨blind_PB, ?_, fun U hU hW => ⟨rfl, hC.2.2.2.2.2.2.2.step hW hU hS, by rw [hU]; exact hP, hD⟩⟩ rfl (by rw [List.length_map]; exact hn) hl.1 (by simp [cv, List.map_reverse]) (lv_room (by rw [List.map_map]; simpa [Function.comp_def, cv_cat] using hW)) hd hcs) hS (fun ad' H1 locs1 hE hP1 hD1 hS1 => ?_)
    · rw [hy]; exact vk_recv (i := q) (adK := fun k => ad (1000000 + k)) hC.2.2.2.2.2.2.2.2.2.1 hq hS
    · cases hE
      have := kk r0 hf r σ' hd' H1 locs1 ls hP1 hD1 hS1 hl
      rw [List.map_append] at this
      cases hq : ra' r0 <;> simpa [hq] using this
end F3
theorem lkj_coder : LkV RJ0 335 yJ0_coder_7d493 cJ0_coder_7d493 1 (some .byte) 0 := ⟨gw_t3 194 (by decide +kernel) (by decide +kernel), gw_t3 195 (by decide +kernel) (by decide +kernel), gw_t3 196 (by decide +kernel) (by decide +kernel), gw_t1 14 (by decide +kernel) (by decide +kernel), gw_t3 197 (by decide +kernel) (by decide +kernel), ⟨by decide +kernel, by decide +kernel⟩, by decide +kernel⟩
theorem lkj_latin : LkV RJ0 492 yJ0_isLatin1_aae02 cJ0_isLatin1_aae02 1 (some .boolean) 0 := ⟨gw_t3 204 (by decide +kernel) (by decide +kernel), gw_t3 205 (by decide +kernel) (by decide +kernel), gw_t3 206 (by decide +kernel) (by decide +kernel), gw_t1 14 (by decide +kernel) (by decide +kernel), gw_t3 207 (by decide +kernel) (by decide +kernel), ⟨by decide +kernel, by decide +kernel⟩, by decide +kernel⟩
theorem lkj_char : LkS RJ0 495 yJ1_charAt_3b067 cJ1_charAt_3b067 2 (some .char) 2 := ⟨gw_t3 208 (by decide +kernel) (by decide +kernel), gw_t3 209 (by decide +kernel) (by decide +kernel), gw_t1 15 (by decide +kernel) (by decide +kernel), gw_t3 210 (by decide +kernel) (by decide +kernel), ⟨by decide +kernel, by decide +kernel⟩, by decide +kernel⟩
theorem lkj_chk : LkS RJ1 9 yJ0_checkIndex_df160 cJ0_checkIndex_df160 2 none 2 := ⟨gw_t3 211 (by decide +kernel) (by decide +kernel), gw_t3 212 (by decide +kernel) (by decide +kernel), gw_t1 14 (by decide +kernel) (by decide +kernel), gw_t3 213 (by decide +kernel) (by decide +kernel), ⟨by decide +kernel, by decide +kernel⟩, by decide +kernel⟩
theorem lkj_pre : LkS RJ0 1059 yJ3_checkIndex_8e157 cJ3_checkIndex_8e157 3 (some .int) 3 := ⟨gw_t3 216 (by decide +kernel) (by decide +kernel), gw_t3 217 (by decide +kernel) (by decide +kernel), gw_t1 16 (by decide +kernel) (by decide +kernel), gw_t3 218 (by decide +kernel) (by decide +kernel), ⟨by decide +kernel, by decide +kernel⟩, by decide +kernel⟩
theorem lfj_comp : Cond.fieldLink RJ0 38 "java/lang/String" "COMPACT_STRINGS" "Z" ∈ GW := gw_t3 198 (by decide +kernel) (by decide +kernel)
theorem lfj_sio : Cond.fieldLink RJ0 1053 "jdk/internal/util/Preconditions" "SIOOBE_FORMATTER" "Ljava/util/function/BiFunction;" ∈ GW := gw_t3 214 (by decide +kernel) (by decide +kernel)
theorem lfj_val : Cond.fieldLink RJ0 9 RJ0 "value" "[B" ∈ GW := gw_t8 118 (by decide +kernel) (by decide +kernel)
theorem lfj_cod : Cond.fieldLink RJ0 15 RJ0 "coder" "B" ∈ GW := gw_t8 119 (by decide +kernel) (by decide +kernel)
section F4
variable {S : Type} {z : ZZ} {w : (Nat → Nat) → S → va_W} {σ : S}
theorem CXcomp {x : XX} {ad : Nat → Nat} {cc : ByteArray} {own : String} {nL : Nat} {ret : Option FieldType} (hC : CX z ad x cc own nL ret) : va_Z "java/lang/String" "COMPACT_STRINGS" "Z" (.int 1) (zA z) x.2.2.2.1 x.2.2.2.1.heap := hC.2.2.2.2.2.2.2.2.2.2.2.2.2.1
theorem CXsio {x : XX} {ad : Nat → Nat} {cc : ByteArray} {own : String} {nL : Nat} {ret : Option FieldType} (hC : CX z ad x cc own nL ret) : va_Z "jdk/internal/util/Preconditions" "SIOOBE_FORMATTER" "Ljava/util/function/BiFunction;" .null (zA z) x.2.2.2.1 x.2.2.2.1.heap ∨ va_Z "jdk/internal/util/Preconditions" "SIOOBE_FORMATTER" "Ljava/util/function/BiFunction;" (.ref (ad 4000000)) (zA z) x.2.2.2.1 x.2.2.2.1.heap := hC.2.2.2.2.2.2.2.2.2.2.2.2.2.2.1
theorem CXnf {x : XX} {ad : Nat → Nat} {cc : ByteArray} {own : String} {nL : Nat} {ret : Option FieldType} (hC : CX z ad x cc own nL ret) : NF x.2.2.2.1 := hC.2.2.2.2.2.2.2.2.2.2.2.2.2.2.2
theorem str_shr : ∀ q, q < 20 → Int32.ofNat (strLen.getD q 0) >>> ((0:Int32) &&& 31) = Int32.ofNat (strLen.getD q 0) := by decide
theorem bi_255 : (Int16.ofInt (255)).toInt32 = (255 : Int32) := by decide
theorem c_coder {q : Nat} (hq : q < 20) : Ct z w rI eqA yJ0_coder_7d493 cJ0_coder_7d493 1 (some .byte) 1 0 0 [.ref (1000000 + q)] σ (some (0, σ)) := by
  refine Ct.of (by decide) (Nat.le_of_ble_eq_true rfl) (fun ad x hC hR _ => ?_)
  show AT z x 1 w rI (eqA ad) 0 0 0 0 ad 0 [(0, .ref (1000000 + q))] [] σ (some ((0 : Int32), σ))
  refine at_gets (v := .int 1) hC (CXcomp hC) lfj_comp dJ0_coder_7d493_0 ?_
  rw [show (some ((0 : Int32), σ)) = (if (1 : Int32) = 0 then none else some ((0 : Int32), σ)) from rfl]
  refine at_if_eq (tgt := 13) hC dJ0_coder_7d493_3 rfl (fun h => absurd h (by decide)) (fun _ => ?_)
  refine at_aload_n (j := 0) hC rfl rfl dJ0_coder_7d493_6 ?_
  refine at_getSc hC hq lfj_cod dJ0_coder_7d493_7 ?_
  refine at_goto (tgt := 14) hC dJ0_coder_7d493_10 rfl ?_
  exact at_nret (F := eqA ad) (ra := rI) (v := 0) hC (by decide) dJ0_coder_7d493_14 rfl (Nat.le_refl 0) (Nat.le_refl 0) rfl
theorem c_latin {q : Nat} (hq : q < 20) : Ct z w rI eqA yJ0_isLatin1_aae02 cJ0_isLatin1_aae02 1 (some .boolean) 1 0 0 [.ref (1000000 + q)] σ (some (1, σ)) := by
  refine Ct.of (by decide) (Nat.le_of_ble_eq_true rfl) (fun ad x hC hR _ => ?_)
  show AT z x 1 w rI (eqA ad) 0 0 0 0 ad 0 [(0, .ref (1000000 + q))] [] σ (some ((1 : Int32), σ))
  refine at_gets (v := .int 1) hC (CXcomp hC) lfj_comp dJ0_isLatin1_aae02_0 ?_
  rw [show (some ((1 : Int32), σ)) = (if (1 : Int32) = 0 then none else (if (0 : Int32) = 0 then some ((1 : Int32), σ) else none)) from rfl]
  refine at_if_eq (tgt := 17) hC dJ0_isLatin1_aae02_3 rfl (fun h => absurd h (by decide)) (fun _ => ?_)
  refine at_aload_n (j := 0) hC rfl rfl dJ0_isLatin1_aae02_6 ?_
  refine at_getSc hC hq lfj_cod dJ0_isLatin1_aae02_7 ?_
  refine at_if_ne (tgt := 17) hC dJ0_isLatin1_aae02_10 rfl (fun h => absurd rfl h) (fun _ => ?_)
  refine at_iconst (v := 1) hC (by decide) dJ0_isLatin1_aae02_13 ?_
  refine at_goto (tgt := 18) hC dJ0_isLatin1_aae02_14 rfl ?_
  exact at_nret (F := eqA ad) (ra := rI) (v := 1) hC (by decide) dJ0_isLatin1_aae02_18 rfl (Nat.le_refl 0) (Nat.le_refl 0) rfl
theorem c_length {q : Nat} (hq : q < 20) : Ct z w rI eqA yJ0_length_8abf5 cJ0_length_8abf5 1 (some .int) 2 0 0 [.ref (1000000 + q)] σ (some (Int32.ofNat (strLen.getD q 0), σ)) := by
  refine Ct.of (by decide) (Nat.le_of_ble_eq_true rfl) (fun ad x hC hR _ => ?_)
  show AT z x 1 w rI (eqA ad) 0 0 0 0 ad 0 [(0, .ref (1000000 + q))] [] σ (some (Int32.ofNat (strLen.getD q 0), σ))
  refine at_aload_n (j := 0) hC rfl rfl dJ0_length_8abf5_0 ?_
  refine at_getSv hC hq lfj_val dJ0_length_8abf5_1 ?_
  refine at_lenS hC hq dJ0_length_8abf5_4 ?_
  refine at_aload_n (j := 0) hC rfl rfl dJ0_length_8abf5_5 ?_
  rw [show (some (Int32.ofNat (strLen.getD q 0), σ)) = ((some (0 : Int32)).bind fun _ => some (Int32.ofNat (strLen.getD q 0), σ)) from rfl]
  refine at_callT (ra' := rI) (As := []) (rest := [.int (Int32.ofNat (strLen.getD q 0))]) hC hR lkj_coder rfl (c_coder hq) dJ0_length_8abf5_6 hq rfl rfl ⟨by decide, by decide⟩ (Nat.le_of_ble_eq_true rfl) ⟨Nat.le_refl 0, Nat.le_refl 0⟩ (fun r e => ?_)
  cases e
  refine at_ishr hC dJ0_length_8abf5_9 ?_
  exact at_iret (F := eqA ad) (ra := rI) hC dJ0_length_8abf5_10 rfl (Nat.le_refl 0) (Nat.le_refl 0) (r0 := Int32.ofNat (strLen.getD q 0)) (by rw [str_shr q hq]; rfl)
theorem c_pre {a b : Int32} {v : Value} (hv : v = .null ∨ v = .ref 4000000) (h0 : 0 ≤ a) (h1 : a < b) : Ct z w rI eqA yJ3_checkIndex_8e157 cJ3_checkIndex_8e157 3 (some .int) 1 0 0 [.int a, .int b, v] σ (some (a, σ)) := by
  rcases hv with rfl | rfl
  all_goals
    refine Ct.of (by decide) (Nat.le_of_ble_eq_true rfl) (fun ad x hC hR _ => ?_)
    first
    | show AT z x 3 w rI (eqA ad) 0 0 0 0 ad 0 [(0, .int a), (1, .int b), (2, .null)] [] σ (some (a, σ))
    | show AT z x 3 w rI (eqA ad) 0 0 0 0 ad 0 [(0, .int a), (1, .int b), (2, .ref 4000000)] [] σ (some (a, σ))
    refine at_iload_n (j := 0) hC rfl rfl dJ3_checkIndex_8e157_0 ?_
    rw [show (some (a, σ)) = (if a < 0 then none else (if a < b then some (a, σ) else none)) by rw [if_neg (Int32.not_lt.mpr h0), if_pos h1]]
    refine at_if_lt (tgt := 9) hC dJ3_checkIndex_8e157_1 rfl (fun h => absurd h (Int32.not_lt.mpr h0)) (fun _ => ?_)
    refine at_iload_n (j := 0) hC rfl rfl dJ3_checkIndex_8e157_4 ?_
    refine at_iload_n (j := 1) hC rfl rfl dJ3_checkIndex_8e157_5 ?_
    refine at_icmp_lt (tgt := 16) hC dJ3_checkIndex_8e157_6 rfl (fun _ => ?_) (fun h => absurd h1 h)
    refine at_iload_n (j := 0) hC rfl rfl dJ3_checkIndex_8e157_16 ?_
    exact at_iret (F := eqA ad) (ra := rI) hC dJ3_checkIndex_8e157_17 rfl (Nat.le_refl 0) (Nat.le_refl 0) rfl
theorem c_chk {a b : Int32} (h0 : 0 ≤ a) (h1 : a < b) : Ct z w rU eqA yJ0_checkIndex_df160 cJ0_checkIndex_df160 2 none 2 0 0 [.int a, .int b] σ (some ((), σ)) := by
  refine Ct.of (by decide) (Nat.le_of_ble_eq_true rfl) (fun ad x hC hR _ => ?_)
  show AT z x 2 w rU (eqA ad) 0 0 0 0 ad 0 [(0, .int a), (1, .int b)] [] σ (some ((), σ))
  refine at_iload_n (j := 0) hC rfl rfl dJ0_checkIndex_df160_0 ?_
  refine at_iload_n (j := 1) hC rfl rfl dJ0_checkIndex_df160_1 ?_
  have go : ∀ v : Value, (v = .null ∨ v = .ref 4000000) → AT z x 2 w rU (eqA ad) 0 0 0 0 ad 5 [(0, .int a), (1, .int b)] [v, .int b, .int a] σ (some ((), σ)) := by
    intro v hv
    rw [show (some ((), σ)) = ((some a).bind fun _ => some ((), σ)) from rfl]
    refine at_callSp (ra' := rI) (As := [.int a, .int b, v]) (rest := []) hC hR lkj_pre (c_pre hv h0 h1) dJ0_checkIndex_df160_5 rfl rfl ⟨by decide, by decide⟩ (Nat.le_of_ble_eq_true rfl) ⟨Nat.le_refl 0, Nat.le_refl 0⟩ (fun r e => ?_)
    cases e
    refine at_pop hC rfl dJ0_checkIndex_df160_8 ?_
    exact at_vret (F := eqA ad) (ra := rU) hC dJ0_checkIndex_df160_9 rfl (Nat.le_refl 0) (Nat.le_refl 0) rfl
  rcases CXsio hC with hz | hz
  · exact at_gets (v := .null) hC hz lfj_sio dJ0_checkIndex_df160_2 (go _ (Or.inl rfl))
  · exact at_gets (v := .ref 4000000) hC hz lfj_sio dJ0_checkIndex_df160_2 (go _ (Or.inr rfl))
theorem vp_in_lt {i : Int32} {n : Nat} (hn : n < 100) (h : vp_in i n) : 0 ≤ i ∧ i < Int32.ofNat n := by
  unfold vp_in at h
  have h0 : ¬ i < 0 := fun g => h (Or.inl g)
  have h1 : i.toNatClampNeg < n := Nat.lt_of_not_le fun g => h (Or.inr g)
  refine ⟨Int32.not_lt.mp h0, ?_⟩
  rw [Int32.lt_iff_toInt_lt, Int32.toInt_ofNat_of_lt (by omega)]
  have : i.toInt.toNat < n := h1
  omega
theorem c_charL {q : Nat} (hq : q < 20) {i : Int32} (hi : vp_in i (strLen.getD q 0)) : Ct z w rI eqA yJ1_charAt_3b067 cJ1_charAt_3b067 2 (some .char) 3 0 0 [.ref (3000000 + q), .int i] σ (some ((strByt.getD q []).getD i.toNatClampNeg 0, σ)) := by
  refine Ct.of (by decide) (Nat.le_of_ble_eq_true rfl) (fun ad x hC hR _ => ?_)
  show AT z x 2 w rI (eqA ad) 0 0 0 0 ad 0 [(0, .ref (3000000 + q)), (1, .int i)] [] σ (some ((strByt.getD q []).getD i.toNatClampNeg 0, σ))
  obtain ⟨h0, h1⟩ := vp_in_lt (str_len q hq) hi
  have hj : i.toNatClampNeg < strLen.getD q 0 := Nat.lt_of_not_le fun g => hi (Or.inr g)
  obtain ⟨e1, e2⟩ := str_byt q hq _ hj
  refine at_iload_n (j := 1) hC rfl rfl dJ1_charAt_3b067_0 ?_
  refine at_aload_n (j := 0) hC rfl rfl dJ1_charAt_3b067_1 ?_
  refine at_lenS hC hq dJ1_charAt_3b067_2 ?_
  rw [show (some ((strByt.getD q []).getD i.toNatClampNeg 0, σ)) = ((some ()).bind fun _ => some ((strByt.getD q []).getD i.toNatClampNeg 0, σ)) from rfl]
  refine at_callSp (ra' := rU) (As := [.int i, .int (Int32.ofNat (strLen.getD q 0))]) (rest := []) hC hR lkj_chk (c_chk h0 h1) dJ1_charAt_3b067_3 rfl rfl ⟨by decide, by decide⟩ (Nat.le_of_ble_eq_true rfl) ⟨Nat.le_refl 0, Nat.le_refl 0⟩ (fun r e => ?_)
  refine at_aload_n (j := 0) hC rfl rfl dJ1_charAt_3b067_6 ?_
  refine at_iload_n (j := 1) hC rfl rfl dJ1_charAt_3b067_7 ?_
  refine at_baldS hC hq hi dJ1_charAt_3b067_8 ?_
  refine at_sipush hC bi_255 dJ1_charAt_3b067_9 ?_
  refine at_iand hC dJ1_charAt_3b067_12 ?_
  refine at_i2c hC e1 dJ1_charAt_3b067_13 ?_
  exact at_nret (F := eqA ad) (ra := rI) hC e2 dJ1_charAt_3b067_14 rfl (Nat.le_refl 0) (Nat.le_refl 0) rfl
theorem c_charAt {q : Nat} (hq : q < 20) {i : Int32} (hi : vp_in i (strLen.getD q 0)) : Ct z w rI eqA yJ0_charAt_5068e cJ0_charAt_5068e 2 (some .char) 4 0 0 [.ref (1000000 + q), .int i] σ (some ((strByt.getD q []).getD i.toNatClampNeg 0, σ)) := by
  refine Ct.of (by decide) (Nat.le_of_ble_eq_true rfl) (fun ad x hC hR _ => ?_)
  show AT z x 2 w rI (eqA ad) 0 0 0 0 ad 0 [(0, .ref (1000000 + q)), (1, .int i)] [] σ (some ((strByt.getD q []).getD i.toNatClampNeg 0, σ))
  have hj : i.toNatClampNeg < strLen.getD q 0 := Nat.lt_of_not_le fun g => hi (Or.inr g)
  obtain ⟨e1, e2⟩ := str_byt q hq _ hj
  refine at_aload_n (j := 0) hC rfl rfl dJ0_charAt_5068e_0 ?_
  rw [show (some ((strByt.getD q []).getD i.toNatClampNeg 0, σ)) = ((some (1 : Int32)).bind fun v => if v = 0 then none else ((some ((strByt.getD q []).getD i.toNatClampNeg 0)).bind fun v => some (v, σ))) from rfl]
  refine at_callT (ra' := rI) (As := []) (rest := []) hC hR lkj_latin rfl (c_latin hq) dJ0_charAt_5068e_1 hq rfl rfl ⟨by decide, by decide⟩ (Nat.le_of_ble_eq_true rfl) ⟨Nat.le_refl 0, Nat.le_refl 0⟩ (fun r e => ?_)
  cases e
  refine at_if_eq (tgt := 16) hC dJ0_charAt_5068e_4 rfl (fun h => absurd h (by decide)) (fun _ => ?_)
  refine at_aload_n (j := 0) hC rfl rfl dJ0_charAt_5068e_7 ?_
  refine at_getSv hC hq lfj_val dJ0_charAt_5068e_8 ?_
  refine at_iload_n (j := 1) hC rfl rfl dJ0_charAt_5068e_11 ?_
  refine at_callSp (ra' := rI) (As := [.ref (3000000 + q), .int i]) (rest := []) hC hR lkj_char (c_charL hq hi) dJ0_charAt_5068e_12 rfl rfl ⟨by decide, by decide⟩ (Nat.le_of_ble_eq_true rfl) ⟨Nat.le_refl 0, Nat.le_refl 0⟩ (fun r e => ?_)
  cases e
  exact at_nret (F := eqA ad) (ra := rI) hC e2 dJ0_charAt_5068e_15 rfl (Nat.le_refl 0) (Nat.le_refl 0) rfl
end F4
section F5
variable {S ρ : Type} {z : ZZ} {x : XX} {nL : Nat} {w : (Nat → Nat) → S → va_W} {ra : ρ → Option Value} {F : (Nat → Nat) → Prop} {mc ms k n : Nat} {ad : Nat → Nat} {pc : Nat} {lv : List (Nat × Value)} {st : List Value} {σ σ1 : S} {d d1 d2 : Option (ρ × S)} {cc : ByteArray} {own : String} {ret : Option FieldType}
variable {ζ : Type} {g : ζ → ρ × S}
theorem at_strlen (hC : CX z ad x cc own nL ret) {h mcR msR idx q : Nat} (hR : x.2.2.1 = rmk h mcR msR) {kd : Int32 → Option (ρ × S)} (lk : LkV own idx yJ0_length_8abf5 cJ0_length_8abf5 1 (some .int) 0) (hd : decode cc pc = .ok (.invokevirtual idx, 3)) (hh : 3 ≤ h) (hW : (st.map fun v => v.category).sum ≤ 8) (hk : k ≤ mcR ∧ n ≤ msR) (kk : ∀ r, AT z x nL w ra F mc ms k n ad (pc + 3) lv (.int r :: st) σ (kd r)) : AT z x nL w ra F mc ms k n ad pc lv (.ref q :: st) σ ((strL q).bind kd) := by
  cases e : strL q with
  | none => exact at_none
  | some r0 =>
    obtain ⟨q', hq, rfl, rfl⟩ := strL_of e
    exact at_callT (ra' := rI) (As := []) (rest := st) (f := some (Int32.ofNat (strLen.getD q' 0))) (kd := fun r => kd r) hC hR lk rfl (c_length hq) hd hq rfl rfl ⟨hh, by decide⟩ hW hk (fun r e => kk r)
theorem at_strchar (hC : CX z ad x cc own nL ret) {h mcR msR idx q : Nat} {i : Int32} (hR : x.2.2.1 = rmk h mcR msR) {kd : Int32 → Option (ρ × S)} (lk : LkV own idx yJ0_charAt_5068e cJ0_charAt_5068e 2 (some .char) 1) (hd : decode cc pc = .ok (.invokevirtual idx, 3)) (hh : 5 ≤ h) (hW : (st.map fun v => v.category).sum ≤ 8) (hk : k ≤ mcR ∧ n ≤ msR) (kk : ∀ r, AT z x nL w ra F mc ms k n ad (pc + 3) lv (.int r :: st) σ (kd r)) : AT z x nL w ra F mc ms k n ad pc lv (.int i :: .ref q :: st) σ ((strC q i).bind kd) := by
  cases e : strC q i with
  | none => exact at_none
  | some r0 =>
    obtain ⟨q', hq, rfl, hi, rfl⟩ := strC_of e
    exact at_callT (ra' := rI) (As := [.int i]) (rest := st) (f := some ((strByt.getD q' []).getD i.toNatClampNeg 0)) (kd := fun r => kd r) hC hR lk rfl (c_charAt hq hi) hd hq rfl rfl ⟨hh, by decide⟩ hW hk (fun r e => kk r)
theorem ap_strlen (hC : CX z ad x cc own nL ret) {h mcR msR idx q : Nat} (hR : x.2.2.1 = rmk h mcR msR) {kd : Int32 → Option ζ} (lk : LkV own idx yJ0_length_8abf5 cJ0_length_8abf5 1 (some .int) 0) (hd : decode cc pc = .ok (.invokevirtual idx, 3)) (hh : 3 ≤ h) (hW : (st.map fun v => v.category).sum ≤ 8) (hk : k ≤ mcR ∧ n ≤ msR) (kk : ∀ r, AT z x nL w ra F mc ms k n ad (pc + 3) lv (.int r :: st) σ ((kd r).map g)) : AT z x nL w ra F mc ms k n ad pc lv (.ref q :: st) σ (((strL q).bind kd).map g) := by
  cases e : strL q with
  | none => exact ap_none
  | some r0 =>
    obtain ⟨q', hq, rfl, rfl⟩ := strL_of e
    exact at_callT (ra' := rI) (As := []) (rest := st) (f := some (Int32.ofNat (strLen.getD q' 0))) (kd := fun r => (kd r).map g) hC hR lk rfl (c_length hq) hd hq rfl rfl ⟨hh, by decide⟩ hW hk (fun r e => kk r)
theorem ap_strchar (hC : CX z ad x cc own nL ret) {h mcR msR idx q : Nat} {i : Int32} (hR : x.2.2.1 = rmk h mcR msR) {kd : Int32 → Option ζ} (lk : LkV own idx yJ0_charAt_5068e cJ0_charAt_5068e 2 (some .char) 1) (hd : decode cc pc = .ok (.invokevirtual idx, 3)) (hh : 5 ≤ h) (hW : (st.map fun v => v.category).sum ≤ 8) (hk : k ≤ mcR ∧ n ≤ msR) (kk : ∀ r, AT z x nL w ra F mc ms k n ad (pc + 3) lv (.int r :: st) σ ((kd r).map g)) : AT z x nL w ra F mc ms k n ad pc lv (.int i :: .ref q :: st) σ (((strC q i).bind kd).map g) := by
  cases e : strC q i with
  | none => exact ap_none
  | some r0 =>
    obtain ⟨q', hq, rfl, hi, rfl⟩ := strC_of e
    exact at_callT (ra' := rI) (As := [.int i]) (rest := st) (f := some ((strByt.getD q' []).getD i.toNatClampNeg 0)) (kd := fun r => (kd r).map g) hC hR lk rfl (c_charAt hq hi) hd hq rfl rfl ⟨hh, by decide⟩ hW hk (fun r e => kk r)
end F5
