def Jd_bitCount {S : Type} (σ : S) (p0 : Int32) : Option Int32 := some ((((((((p0 - (((p0.toUInt32 >>> ((1 : Int32).toUInt32 &&& Int32.toUInt32 31)).toInt32) &&& 1431655765)) &&& 858993459) + ((((p0 - (((p0.toUInt32 >>> ((1 : Int32).toUInt32 &&& Int32.toUInt32 31)).toInt32) &&& 1431655765)).toUInt32 >>> ((2 : Int32).toUInt32 &&& Int32.toUInt32 31)).toInt32) &&& 858993459)) + (((((p0 - (((p0.toUInt32 >>> ((1 : Int32).toUInt32 &&& Int32.toUInt32 31)).toInt32) &&& 1431655765)) &&& 858993459) + ((((p0 - (((p0.toUInt32 >>> ((1 : Int32).toUInt32 &&& Int32.toUInt32 31)).toInt32) &&& 1431655765)).toUInt32 >>> ((2 : Int32).toUInt32 &&& Int32.toUInt32 31)).toInt32) &&& 858993459)).toUInt32 >>> ((4 : Int32).toUInt32 &&& Int32.toUInt32 31)).toInt32)) &&& 252645135) + (((((((p0 - (((p0.toUInt32 >>> ((1 : Int32).toUInt32 &&& Int32.toUInt32 31)).toInt32) &&& 1431655765)) &&& 858993459) + ((((p0 - (((p0.toUInt32 >>> ((1 : Int32).toUInt32 &&& Int32.toUInt32 31)).toInt32) &&& 1431655765)).toUInt32 >>> ((2 : Int32).toUInt32 &&& Int32.toUInt32 31)).toInt32) &&& 858993459)) + (((((p0 - (((p0.toUInt32 >>> ((1 : Int32).toUInt32 &&& Int32.toUInt32 31)).toInt32) &&& 1431655765)) &&& 858993459) + ((((p0 - (((p0.toUInt32 >>> ((1 : Int32).toUInt32 &&& Int32.toUInt32 31)).toInt32) &&& 1431655765)).toUInt32 >>> ((2 : Int32).toUInt32 &&& Int32.toUInt32 31)).toInt32) &&& 858993459)).toUInt32 >>> ((4 : Int32).toUInt32 &&& Int32.toUInt32 31)).toInt32)) &&& 252645135).toUInt32 >>> ((8 : Int32).toUInt32 &&& Int32.toUInt32 31)).toInt32)) + ((((((((p0 - (((p0.toUInt32 >>> ((1 : Int32).toUInt32 &&& Int32.toUInt32 31)).toInt32) &&& 1431655765)) &&& 858993459) + ((((p0 - (((p0.toUInt32 >>> ((1 : Int32).toUInt32 &&& Int32.toUInt32 31)).toInt32) &&& 1431655765)).toUInt32 >>> ((2 : Int32).toUInt32 &&& Int32.toUInt32 31)).toInt32) &&& 858993459)) + (((((p0 - (((p0.toUInt32 >>> ((1 : Int32).toUInt32 &&& Int32.toUInt32 31)).toInt32) &&& 1431655765)) &&& 858993459) + ((((p0 - (((p0.toUInt32 >>> ((1 : Int32).toUInt32 &&& Int32.toUInt32 31)).toInt32) &&& 1431655765)).toUInt32 >>> ((2 : Int32).toUInt32 &&& Int32.toUInt32 31)).toInt32) &&& 858993459)).toUInt32 >>> ((4 : Int32).toUInt32 &&& Int32.toUInt32 31)).toInt32)) &&& 252645135) + (((((((p0 - (((p0.toUInt32 >>> ((1 : Int32).toUInt32 &&& Int32.toUInt32 31)).toInt32) &&& 1431655765)) &&& 858993459) + ((((p0 - (((p0.toUInt32 >>> ((1 : Int32).toUInt32 &&& Int32.toUInt32 31)).toInt32) &&& 1431655765)).toUInt32 >>> ((2 : Int32).toUInt32 &&& Int32.toUInt32 31)).toInt32) &&& 858993459)) + (((((p0 - (((p0.toUInt32 >>> ((1 : Int32).toUInt32 &&& Int32.toUInt32 31)).toInt32) &&& 1431655765)) &&& 858993459) + ((((p0 - (((p0.toUInt32 >>> ((1 : Int32).toUInt32 &&& Int32.toUInt32 31)).toInt32) &&& 1431655765)).toUInt32 >>> ((2 : Int32).toUInt32 &&& Int32.toUInt32 31)).toInt32) &&& 858993459)).toUInt32 >>> ((4 : Int32).toUInt32 &&& Int32.toUInt32 31)).toInt32)) &&& 252645135).toUInt32 >>> ((8 : Int32).toUInt32 &&& Int32.toUInt32 31)).toInt32)).toUInt32 >>> ((16 : Int32).toUInt32 &&& Int32.toUInt32 31)).toInt32)) &&& 63)

section G
variable {z : ZZ} {x : XX} {ad : Nat → Nat} 
theorem dJ6_bitCount_0f7a4_0 : decode cJ6_bitCount_0f7a4 0 = .ok (.iload_n 0, 1) := by decide +kernel
theorem dJ6_bitCount_0f7a4_1 : decode cJ6_bitCount_0f7a4 1 = .ok (.iload_n 0, 1) := by decide +kernel
theorem dJ6_bitCount_0f7a4_2 : decode cJ6_bitCount_0f7a4 2 = .ok (.iconst 1, 1) := by decide +kernel
theorem dJ6_bitCount_0f7a4_3 : decode cJ6_bitCount_0f7a4 3 = .ok (.iushr, 1) := by decide +kernel
theorem dJ6_bitCount_0f7a4_4 : decode cJ6_bitCount_0f7a4 4 = .ok (.ldc_w 265, 3) := by decide +kernel
theorem dJ6_bitCount_0f7a4_7 : decode cJ6_bitCount_0f7a4 7 = .ok (.iand, 1) := by decide +kernel
theorem dJ6_bitCount_0f7a4_8 : decode cJ6_bitCount_0f7a4 8 = .ok (.isub, 1) := by decide +kernel
theorem dJ6_bitCount_0f7a4_9 : decode cJ6_bitCount_0f7a4 9 = .ok (.istore_n 0, 1) := by decide +kernel
theorem dJ6_bitCount_0f7a4_10 : decode cJ6_bitCount_0f7a4 10 = .ok (.iload_n 0, 1) := by decide +kernel
theorem dJ6_bitCount_0f7a4_11 : decode cJ6_bitCount_0f7a4 11 = .ok (.ldc_w 266, 3) := by decide +kernel
theorem dJ6_bitCount_0f7a4_14 : decode cJ6_bitCount_0f7a4 14 = .ok (.iand, 1) := by decide +kernel
theorem dJ6_bitCount_0f7a4_15 : decode cJ6_bitCount_0f7a4 15 = .ok (.iload_n 0, 1) := by decide +kernel
theorem dJ6_bitCount_0f7a4_16 : decode cJ6_bitCount_0f7a4 16 = .ok (.iconst 2, 1) := by decide +kernel
theorem dJ6_bitCount_0f7a4_17 : decode cJ6_bitCount_0f7a4 17 = .ok (.iushr, 1) := by decide +kernel
theorem dJ6_bitCount_0f7a4_18 : decode cJ6_bitCount_0f7a4 18 = .ok (.ldc_w 266, 3) := by decide +kernel
theorem dJ6_bitCount_0f7a4_21 : decode cJ6_bitCount_0f7a4 21 = .ok (.iand, 1) := by decide +kernel
theorem dJ6_bitCount_0f7a4_22 : decode cJ6_bitCount_0f7a4 22 = .ok (.iadd, 1) := by decide +kernel
theorem dJ6_bitCount_0f7a4_23 : decode cJ6_bitCount_0f7a4 23 = .ok (.istore_n 0, 1) := by decide +kernel
theorem dJ6_bitCount_0f7a4_24 : decode cJ6_bitCount_0f7a4 24 = .ok (.iload_n 0, 1) := by decide +kernel
theorem dJ6_bitCount_0f7a4_25 : decode cJ6_bitCount_0f7a4 25 = .ok (.iload_n 0, 1) := by decide +kernel
theorem dJ6_bitCount_0f7a4_26 : decode cJ6_bitCount_0f7a4 26 = .ok (.iconst 4, 1) := by decide +kernel
theorem dJ6_bitCount_0f7a4_27 : decode cJ6_bitCount_0f7a4 27 = .ok (.iushr, 1) := by decide +kernel
theorem dJ6_bitCount_0f7a4_28 : decode cJ6_bitCount_0f7a4 28 = .ok (.iadd, 1) := by decide +kernel
theorem dJ6_bitCount_0f7a4_29 : decode cJ6_bitCount_0f7a4 29 = .ok (.ldc_w 267, 3) := by decide +kernel
theorem dJ6_bitCount_0f7a4_32 : decode cJ6_bitCount_0f7a4 32 = .ok (.iand, 1) := by decide +kernel
theorem dJ6_bitCount_0f7a4_33 : decode cJ6_bitCount_0f7a4 33 = .ok (.istore_n 0, 1) := by decide +kernel
theorem dJ6_bitCount_0f7a4_34 : decode cJ6_bitCount_0f7a4 34 = .ok (.iload_n 0, 1) := by decide +kernel
theorem dJ6_bitCount_0f7a4_35 : decode cJ6_bitCount_0f7a4 35 = .ok (.iload_n 0, 1) := by decide +kernel
theorem dJ6_bitCount_0f7a4_36 : decode cJ6_bitCount_0f7a4 36 = .ok (.bipush 8, 2) := by decide +kernel
theorem dJ6_bitCount_0f7a4_38 : decode cJ6_bitCount_0f7a4 38 = .ok (.iushr, 1) := by decide +kernel
theorem dJ6_bitCount_0f7a4_39 : decode cJ6_bitCount_0f7a4 39 = .ok (.iadd, 1) := by decide +kernel
theorem dJ6_bitCount_0f7a4_40 : decode cJ6_bitCount_0f7a4 40 = .ok (.istore_n 0, 1) := by decide +kernel
theorem dJ6_bitCount_0f7a4_41 : decode cJ6_bitCount_0f7a4 41 = .ok (.iload_n 0, 1) := by decide +kernel
theorem dJ6_bitCount_0f7a4_42 : decode cJ6_bitCount_0f7a4 42 = .ok (.iload_n 0, 1) := by decide +kernel
theorem dJ6_bitCount_0f7a4_43 : decode cJ6_bitCount_0f7a4 43 = .ok (.bipush 16, 2) := by decide +kernel
theorem dJ6_bitCount_0f7a4_45 : decode cJ6_bitCount_0f7a4 45 = .ok (.iushr, 1) := by decide +kernel
theorem dJ6_bitCount_0f7a4_46 : decode cJ6_bitCount_0f7a4 46 = .ok (.iadd, 1) := by decide +kernel
theorem dJ6_bitCount_0f7a4_47 : decode cJ6_bitCount_0f7a4 47 = .ok (.istore_n 0, 1) := by decide +kernel
theorem dJ6_bitCount_0f7a4_48 : decode cJ6_bitCount_0f7a4 48 = .ok (.iload_n 0, 1) := by decide +kernel
theorem dJ6_bitCount_0f7a4_49 : decode cJ6_bitCount_0f7a4 49 = .ok (.bipush 63, 2) := by decide +kernel
theorem dJ6_bitCount_0f7a4_51 : decode cJ6_bitCount_0f7a4 51 = .ok (.iand, 1) := by decide +kernel
theorem dJ6_bitCount_0f7a4_52 : decode cJ6_bitCount_0f7a4 52 = .ok (.ireturn, 1) := by decide +kernel
set_option maxRecDepth 100000 in
theorem c_Jd_bitCount {S : Type} {w : (Nat → Nat) → S → va_W} (σ : S) (p0 : Int32) : Ct z w rI eqA yJ6_bitCount_0f7a4 cJ6_bitCount_0f7a4 1 (some .int) 1 0 0 [.int p0] σ ((Jd_bitCount σ p0).map fun r => (r, σ)) := by
  refine Ct.of (by decide) (Nat.le_of_ble_eq_true rfl) (fun ad x hC hR _ => ?_)
  show AT z x 1 w rI (eqA ad) 0 0 0 0 ad 0 [(0, .int p0)] [] σ ((Jd_bitCount σ p0).map fun r => (r, σ))
  unfold Jd_bitCount
  refine at_iload_n (j := 0) hC rfl rfl dJ6_bitCount_0f7a4_0 ?_
  refine at_iload_n (j := 0) hC rfl rfl dJ6_bitCount_0f7a4_1 ?_
  refine at_iconst hC ic_1 dJ6_bitCount_0f7a4_2 ?_
  refine at_iushr hC dJ6_bitCount_0f7a4_3 ?_
  refine at_ldcw hC kc_J6_265 dJ6_bitCount_0f7a4_4 ?_
  refine at_iand hC dJ6_bitCount_0f7a4_7 ?_
  refine at_isub hC dJ6_bitCount_0f7a4_8 ?_
  refine at_istore_n (lv' := [(0, .int (p0 - (((p0.toUInt32 >>> ((1 : Int32).toUInt32 &&& Int32.toUInt32 31)).toInt32) &&& 1431655765)))]) hC rfl dJ6_bitCount_0f7a4_9 (by decide) rfl ?_
  refine at_iload_n (j := 0) hC rfl rfl dJ6_bitCount_0f7a4_10 ?_
  refine at_ldcw hC kc_J6_266 dJ6_bitCount_0f7a4_11 ?_
  refine at_iand hC dJ6_bitCount_0f7a4_14 ?_
  refine at_iload_n (j := 0) hC rfl rfl dJ6_bitCount_0f7a4_15 ?_
  refine at_iconst hC ic_2 dJ6_bitCount_0f7a4_16 ?_
  refine at_iushr hC dJ6_bitCount_0f7a4_17 ?_
  refine at_ldcw hC kc_J6_266 dJ6_bitCount_0f7a4_18 ?_
  refine at_iand hC dJ6_bitCount_0f7a4_21 ?_
  refine at_iadd hC dJ6_bitCount_0f7a4_22 ?_
  refine at_istore_n (lv' := [(0, .int (((p0 - (((p0.toUInt32 >>> ((1 : Int32).toUInt32 &&& Int32.toUInt32 31)).toInt32) &&& 1431655765)) &&& 858993459) + ((((p0 - (((p0.toUInt32 >>> ((1 : Int32).toUInt32 &&& Int32.toUInt32 31)).toInt32) &&& 1431655765)).toUInt32 >>> ((2 : Int32).toUInt32 &&& Int32.toUInt32 31)).toInt32) &&& 858993459)))]) hC rfl dJ6_bitCount_0f7a4_23 (by decide) rfl ?_
  refine at_iload_n (j := 0) hC rfl rfl dJ6_bitCount_0f7a4_24 ?_
  refine at_iload_n (j := 0) hC rfl rfl dJ6_bitCount_0f7a4_25 ?_
  refine at_iconst hC ic_4 dJ6_bitCount_0f7a4_26 ?_
  refine at_iushr hC dJ6_bitCount_0f7a4_27 ?_
  refine at_iadd hC dJ6_bitCount_0f7a4_28 ?_
  refine at_ldcw hC kc_J6_267 dJ6_bitCount_0f7a4_29 ?_
  refine at_iand hC dJ6_bitCount_0f7a4_32 ?_
  refine at_istore_n (lv' := [(0, .int (((((p0 - (((p0.toUInt32 >>> ((1 : Int32).toUInt32 &&& Int32.toUInt32 31)).toInt32) &&& 1431655765)) &&& 858993459) + ((((p0 - (((p0.toUInt32 >>> ((1 : Int32).toUInt32 &&& Int32.toUInt32 31)).toInt32) &&& 1431655765)).toUInt32 >>> ((2 : Int32).toUInt32 &&& Int32.toUInt32 31)).toInt32) &&& 858993459)) + (((((p0 - (((p0.toUInt32 >>> ((1 : Int32).toUInt32 &&& Int32.toUInt32 31)).toInt32) &&& 1431655765)) &&& 858993459) + ((((p0 - (((p0.toUInt32 >>> ((1 : Int32).toUInt32 &&& Int32.toUInt32 31)).toInt32) &&& 1431655765)).toUInt32 >>> ((2 : Int32).toUInt32 &&& Int32.toUInt32 31)).toInt32) &&& 858993459)).toUInt32 >>> ((4 : Int32).toUInt32 &&& Int32.toUInt32 31)).toInt32)) &&& 252645135))]) hC rfl dJ6_bitCount_0f7a4_33 (by decide) rfl ?_
  refine at_iload_n (j := 0) hC rfl rfl dJ6_bitCount_0f7a4_34 ?_
  refine at_iload_n (j := 0) hC rfl rfl dJ6_bitCount_0f7a4_35 ?_
  refine at_bipush hC bi_8 dJ6_bitCount_0f7a4_36 ?_
  refine at_iushr hC dJ6_bitCount_0f7a4_38 ?_
  refine at_iadd hC dJ6_bitCount_0f7a4_39 ?_
  refine at_istore_n (lv' := [(0, .int ((((((p0 - (((p0.toUInt32 >>> ((1 : Int32).toUInt32 &&& Int32.toUInt32 31)).toInt32) &&& 1431655765)) &&& 858993459) + ((((p0 - (((p0.toUInt32 >>> ((1 : Int32).toUInt32 &&& Int32.toUInt32 31)).toInt32) &&& 1431655765)).toUInt32 >>> ((2 : Int32).toUInt32 &&& Int32.toUInt32 31)).toInt32) &&& 858993459)) + (((((p0 - (((p0.toUInt32 >>> ((1 : Int32).toUInt32 &&& Int32.toUInt32 31)).toInt32) &&& 1431655765)) &&& 858993459) + ((((p0 - (((p0.toUInt32 >>> ((1 : Int32).toUInt32 &&& Int32.toUInt32 31)).toInt32) &&& 1431655765)).toUInt32 >>> ((2 : Int32).toUInt32 &&& Int32.toUInt32 31)).toInt32) &&& 858993459)).toUInt32 >>> ((4 : Int32).toUInt32 &&& Int32.toUInt32 31)).toInt32)) &&& 252645135) + (((((((p0 - (((p0.toUInt32 >>> ((1 : Int32).toUInt32 &&& Int32.toUInt32 31)).toInt32) &&& 1431655765)) &&& 858993459) + ((((p0 - (((p0.toUInt32 >>> ((1 : Int32).toUInt32 &&& Int32.toUInt32 31)).toInt32) &&& 1431655765)).toUInt32 >>> ((2 : Int32).toUInt32 &&& Int32.toUInt32 31)).toInt32) &&& 858993459)) + (((((p0 - (((p0.toUInt32 >>> ((1 : Int32).toUInt32 &&& Int32.toUInt32 31)).toInt32) &&& 1431655765)) &&& 858993459) + ((((p0 - (((p0.toUInt32 >>> ((1 : Int32).toUInt32 &&& Int32.toUInt32 31)).toInt32) &&& 1431655765)).toUInt32 >>> ((2 : Int32).toUInt32 &&& Int32.toUInt32 31)).toInt32) &&& 858993459)).toUInt32 >>> ((4 : Int32).toUInt32 &&& Int32.toUInt32 31)).toInt32)) &&& 252645135).toUInt32 >>> ((8 : Int32).toUInt32 &&& Int32.toUInt32 31)).toInt32)))]) hC rfl dJ6_bitCount_0f7a4_40 (by decide) rfl ?_
  refine at_iload_n (j := 0) hC rfl rfl dJ6_bitCount_0f7a4_41 ?_
  refine at_iload_n (j := 0) hC rfl rfl dJ6_bitCount_0f7a4_42 ?_
  refine at_bipush hC bi_16 dJ6_bitCount_0f7a4_43 ?_
  refine at_iushr hC dJ6_bitCount_0f7a4_45 ?_
  refine at_iadd hC dJ6_bitCount_0f7a4_46 ?_
  refine at_istore_n (lv' := [(0, .int (((((((p0 - (((p0.toUInt32 >>> ((1 : Int32).toUInt32 &&& Int32.toUInt32 31)).toInt32) &&& 1431655765)) &&& 858993459) + ((((p0 - (((p0.toUInt32 >>> ((1 : Int32).toUInt32 &&& Int32.toUInt32 31)).toInt32) &&& 1431655765)).toUInt32 >>> ((2 : Int32).toUInt32 &&& Int32.toUInt32 31)).toInt32) &&& 858993459)) + (((((p0 - (((p0.toUInt32 >>> ((1 : Int32).toUInt32 &&& Int32.toUInt32 31)).toInt32) &&& 1431655765)) &&& 858993459) + ((((p0 - (((p0.toUInt32 >>> ((1 : Int32).toUInt32 &&& Int32.toUInt32 31)).toInt32) &&& 1431655765)).toUInt32 >>> ((2 : Int32).toUInt32 &&& Int32.toUInt32 31)).toInt32) &&& 858993459)).toUInt32 >>> ((4 : Int32).toUInt32 &&& Int32.toUInt32 31)).toInt32)) &&& 252645135) + (((((((p0 - (((p0.toUInt32 >>> ((1 : Int32).toUInt32 &&& Int32.toUInt32 31)).toInt32) &&& 1431655765)) &&& 858993459) + ((((p0 - (((p0.toUInt32 >>> ((1 : Int32).toUInt32 &&& Int32.toUInt32 31)).toInt32) &&& 1431655765)).toUInt32 >>> ((2 : Int32).toUInt32 &&& Int32.toUInt32 31)).toInt32) &&& 858993459)) + (((((p0 - (((p0.toUInt32 >>> ((1 : Int32).toUInt32 &&& Int32.toUInt32 31)).toInt32) &&& 1431655765)) &&& 858993459) + ((((p0 - (((p0.toUInt32 >>> ((1 : Int32).toUInt32 &&& Int32.toUInt32 31)).toInt32) &&& 1431655765)).toUInt32 >>> ((2 : Int32).toUInt32 &&& Int32.toUInt32 31)).toInt32) &&& 858993459)).toUInt32 >>> ((4 : Int32).toUInt32 &&& Int32.toUInt32 31)).toInt32)) &&& 252645135).toUInt32 >>> ((8 : Int32).toUInt32 &&& Int32.toUInt32 31)).toInt32)) + ((((((((p0 - (((p0.toUInt32 >>> ((1 : Int32).toUInt32 &&& Int32.toUInt32 31)).toInt32) &&& 1431655765)) &&& 858993459) + ((((p0 - (((p0.toUInt32 >>> ((1 : Int32).toUInt32 &&& Int32.toUInt32 31)).toInt32) &&& 1431655765)).toUInt32 >>> ((2 : Int32).toUInt32 &&& Int32.toUInt32 31)).toInt32) &&& 858993459)) + (((((p0 - (((p0.toUInt32 >>> ((1 : Int32).toUInt32 &&& Int32.toUInt32 31)).toInt32) &&& 1431655765)) &&& 858993459) + ((((p0 - (((p0.toUInt32 >>> ((1 : Int32).toUInt32 &&& Int32.toUInt32 31)).toInt32) &&& 1431655765)).toUInt32 >>> ((2 : Int32).toUInt32 &&& Int32.toUInt32 31)).toInt32) &&& 858993459)).toUInt32 >>> ((4 : Int32).toUInt32 &&& Int32.toUInt32 31)).toInt32)) &&& 252645135) + (((((((p0 - (((p0.toUInt32 >>> ((1 : Int32).toUInt32 &&& Int32.toUInt32 31)).toInt32) &&& 1431655765)) &&& 858993459) + ((((p0 - (((p0.toUInt32 >>> ((1 : Int32).toUInt32 &&& Int32.toUInt32 31)).toInt32) &&& 1431655765)).toUInt32 >>> ((2 : Int32).toUInt32 &&& Int32.toUInt32 31)).toInt32) &&& 858993459)) + (((((p0 - (((p0.toUInt32 >>> ((1 : Int32).toUInt32 &&& Int32.toUInt32 31)).toInt32) &&& 1431655765)) &&& 858993459) + ((((p0 - (((p0.toUInt32 >>> ((1 : Int32).toUInt32 &&& Int32.toUInt32 31)).toInt32) &&& 1431655765)).toUInt32 >>> ((2 : Int32).toUInt32 &&& Int32.toUInt32 31)).toInt32) &&& 858993459)).toUInt32 >>> ((4 : Int32).toUInt32 &&& Int32.toUInt32 31)).toInt32)) &&& 252645135).toUInt32 >>> ((8 : Int32).toUInt32 &&& Int32.toUInt32 31)).toInt32)).toUInt32 >>> ((16 : Int32).toUInt32 &&& Int32.toUInt32 31)).toInt32)))]) hC rfl dJ6_bitCount_0f7a4_47 (by decide) rfl ?_
  refine at_iload_n (j := 0) hC rfl rfl dJ6_bitCount_0f7a4_48 ?_
  refine at_bipush hC bi_63 dJ6_bitCount_0f7a4_49 ?_
  refine at_iand hC dJ6_bitCount_0f7a4_51 ?_
  exact at_iret (F := eqA ad) (ra := rI) hC dJ6_bitCount_0f7a4_52 rfl (Nat.le_refl 0) (Nat.le_refl 0) rfl
end G

def mxI (x y : Int32) : Int32 := if x < y then y else x
def mnI (x y : Int32) : Int32 := if y < x then y else x
def mxJ (x y : Int64) : Int64 := if y < x then x else y
def mnJ (x y : Int64) : Int64 := if y < x then y else x
def LkM (own : String) (idx : Nat) (y : MethodName) (cc : ByteArray) (maxL : Nat) (ret : Option FieldType) : Prop := .methodLink own idx y ∈ GW ∧ .static y ∈ GW ∧ .initialized "java/lang/Math" ∈ GW ∧ .code y cc maxL ret ∈ GW
section JR
variable {S ρ ζ : Type} {z : ZZ} {x : XX} {nL : Nat} {w : (Nat → Nat) → S → va_W} {ra : ρ → Option Value} {F : (Nat → Nat) → Prop} {mc ms k n : Nat} {ad : Nat → Nat} {pc : Nat} {lv : List (Nat × Value)} {st : List Value} {σ : S} {d : Option (ρ × S)} {cc : ByteArray} {own : String} {ret : Option FieldType}
theorem at_mxI (hC : CX z ad x cc own nL ret) {h mcR msR idx : Nat} (hR : x.2.2.1 = rmk h mcR msR) {a b : Int32} (lk : LkM own idx Lib.Math.max.name Lib.Math.max.code 2 (some .int)) (hd : decode cc pc = .ok (.invokestatic idx, 3)) (hh : 1 ≤ h) (hW : (st.map fun v => v.category).sum ≤ 8) (hk : k ≤ mcR ∧ n ≤ msR) (kk : AT z x nL w ra F mc ms k n ad (pc + 3) lv (.int (mxI a b) :: st) σ d) : AT z x nL w ra F mc ms k n ad pc lv (.int b :: .int a :: st) σ d := by
  intro r σ' hd' H locs ls hP hD hS hl
  have hcw := hC.2.2.2.2.2.1
  have hW2 : ((st.map (cv ad)).map fun v => v.category).sum ≤ 8 := by rw [List.map_map]; simpa [Function.comp_def, cv_cat] using hW
  exact va_mmax hC.1 hC.2.1 (by rw [hC.2.2.2.1]; exact hl.1.symm) hC.2.2.2.2.1 (hcw _ lk.1) (hcw _ lk.2.1) (hcw _ lk.2.2.1) (hcw _ lk.2.2.2) (by rw [hR]; exact hh) (by rw [hR]; show _ ≤ 64 * h; omega) (by rw [hR]; exact hk.1) (by rw [hR]; exact hk.2) hd (kk r σ' hd' H locs ls hP hD hS hl)
theorem at_mnI (hC : CX z ad x cc own nL ret) {h mcR msR idx : Nat} (hR : x.2.2.1 = rmk h mcR msR) {a b : Int32} (lk : LkM own idx Lib.Math.min.name Lib.Math.min.code 2 (some .int)) (hd : decode cc pc = .ok (.invokestatic idx, 3)) (hh : 1 ≤ h) (hW : (st.map fun v => v.category).sum ≤ 8) (hk : k ≤ mcR ∧ n ≤ msR) (kk : AT z x nL w ra F mc ms k n ad (pc + 3) lv (.int (mnI a b) :: st) σ d) : AT z x nL w ra F mc ms k n ad pc lv (.int b :: .int a :: st) σ d := by
  intro r σ' hd' H locs ls hP hD hS hl
  have hcw := hC.2.2.2.2.2.1
  have hW2 : ((st.map (cv ad)).map fun v => v.category).sum ≤ 8 := by rw [List.map_map]; simpa [Function.comp_def, cv_cat] using hW
  exact va_mmin hC.1 hC.2.1 (by rw [hC.2.2.2.1]; exact hl.1.symm) hC.2.2.2.2.1 (hcw _ lk.1) (hcw _ lk.2.1) (hcw _ lk.2.2.1) (hcw _ lk.2.2.2) (by rw [hR]; exact hh) (by rw [hR]; show _ ≤ 64 * h; omega) (by rw [hR]; exact hk.1) (by rw [hR]; exact hk.2) hd (kk r σ' hd' H locs ls hP hD hS hl)
theorem at_mxJ (hC : CX z ad x cc own nL ret) {h mcR msR idx : Nat} (hR : x.2.2.1 = rmk h mcR msR) {a b : Int64} (lk : LkM own idx Lib.MathLoose.max_long.x Lib.MathLoose.max_long.code 4 (some .long)) (hd : decode cc pc = .ok (.invokestatic idx, 3)) (hh : 1 ≤ h) (hW : (st.map fun v => v.category).sum ≤ 8) (hk : k ≤ mcR ∧ n ≤ msR) (kk : AT z x nL w ra F mc ms k n ad (pc + 3) lv (.long (mxJ a b) :: st) σ d) : AT z x nL w ra F mc ms k n ad pc lv (.long b :: .long a :: st) σ d := by
  intro r σ' hd' H locs ls hP hD hS hl
  have hcw := hC.2.2.2.2.2.1
  have hW2 : ((st.map (cv ad)).map fun v => v.category).sum ≤ 8 := by rw [List.map_map]; simpa [Function.comp_def, cv_cat] using hW
  exact va_mmax_long hC.1 hC.2.1 (by rw [hC.2.2.2.1]; exact hl.1.symm) hC.2.2.2.2.1 (hcw _ lk.1) (hcw _ lk.2.1) (hcw _ lk.2.2.1) (hcw _ lk.2.2.2) (by rw [hR]; exact hh) (by rw [hR]; show _ ≤ 64 * h; omega) (by rw [hR]; exact hk.1) (by rw [hR]; exact hk.2) hd (kk r σ' hd' H locs ls hP hD hS hl)
theorem at_mnJ (hC : CX z ad x cc own nL ret) {h mcR msR idx : Nat} (hR : x.2.2.1 = rmk h mcR msR) {a b : Int64} (lk : LkM own idx Lib.MathLoose.min_long.x Lib.MathLoose.min_long.code 4 (some .long)) (hd : decode cc pc = .ok (.invokestatic idx, 3)) (hh : 1 ≤ h) (hW : (st.map fun v => v.category).sum ≤ 8) (hk : k ≤ mcR ∧ n ≤ msR) (kk : AT z x nL w ra F mc ms k n ad (pc + 3) lv (.long (mnJ a b) :: st) σ d) : AT z x nL w ra F mc ms k n ad pc lv (.long b :: .long a :: st) σ d := by
  intro r σ' hd' H locs ls hP hD hS hl
  have hcw := hC.2.2.2.2.2.1
  have hW2 : ((st.map (cv ad)).map fun v => v.category).sum ≤ 8 := by rw [List.map_map]; simpa [Function.comp_def, cv_cat] using hW
  exact va_mmin_long hC.1 hC.2.1 (by rw [hC.2.2.2.1]; exact hl.1.symm) hC.2.2.2.2.1 (hcw _ lk.1) (hcw _ lk.2.1) (hcw _ lk.2.2.1) (hcw _ lk.2.2.2) (by rw [hR]; exact hh) (by rw [hR]; show _ ≤ 64 * h; omega) (by rw [hR]; exact hk.1) (by rw [hR]; exact hk.2) hd (kk r σ' hd' H locs ls hP hD hS hl)
end JR
theorem lkm_X10_247 : LkM RX10 247 Lib.Math.min.name Lib.Math.min.code 2 (some .int) := ⟨gw_t4 74 (by decide +kernel) (by decide +kernel), gw_t4 75 (by decide +kernel) (by decide +kernel), gw_t1 13 (by decide +kernel) (by decide +kernel), gw_t4 76 (by decide +kernel) (by decide +kernel)⟩
theorem lkm_X1_56 : LkM RX1 56 Lib.Math.max.name Lib.Math.max.code 2 (some .int) := ⟨gw_t3 48 (by decide +kernel) (by decide +kernel), gw_t3 42 (by decide +kernel) (by decide +kernel), gw_t1 13 (by decide +kernel) (by decide +kernel), gw_t3 43 (by decide +kernel) (by decide +kernel)⟩
theorem lkm_X2_147 : LkM RX2 147 Lib.MathLoose.min_long.x Lib.MathLoose.min_long.code 4 (some .long) := ⟨gw_t4 130 (by decide +kernel) (by decide +kernel), gw_t4 131 (by decide +kernel) (by decide +kernel), gw_t1 13 (by decide +kernel) (by decide +kernel), gw_t4 132 (by decide +kernel) (by decide +kernel)⟩
theorem lkm_X2_215 : LkM RX2 215 Lib.MathLoose.max_long.x Lib.MathLoose.max_long.code 4 (some .long) := ⟨gw_t5 68 (by decide +kernel) (by decide +kernel), gw_t5 69 (by decide +kernel) (by decide +kernel), gw_t1 13 (by decide +kernel) (by decide +kernel), gw_t5 70 (by decide +kernel) (by decide +kernel)⟩
theorem lkm_X3_73 : LkM RX3 73 Lib.Math.max.name Lib.Math.max.code 2 (some .int) := ⟨gw_t3 41 (by decide +kernel) (by decide +kernel), gw_t3 42 (by decide +kernel) (by decide +kernel), gw_t1 13 (by decide +kernel) (by decide +kernel), gw_t3 43 (by decide +kernel) (by decide +kernel)⟩
theorem lkm_X9_44 : LkM RX9 44 Lib.Math.max.name Lib.Math.max.code 2 (some .int) := ⟨gw_t5 124 (by decide +kernel) (by decide +kernel), gw_t3 42 (by decide +kernel) (by decide +kernel), gw_t1 13 (by decide +kernel) (by decide +kernel), gw_t3 43 (by decide +kernel) (by decide +kernel)⟩
