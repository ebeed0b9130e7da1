def Jd_maxI {S : Type} (σ : S) (p0 : Int32) (p1 : Int32) : Option Int32 := if p0 < p1 then some p1 else some p0
def Jd_maxJ {S : Type} (σ : S) (p0 : Int64) (p1 : Int64) : Option Int64 := if (lg_cmp p0 p1) < 0 then some p1 else some p0
def Jd_minI {S : Type} (σ : S) (p0 : Int32) (p1 : Int32) : Option Int32 := if p1 < p0 then some p1 else some p0
def Jd_minJ {S : Type} (σ : S) (p0 : Int64) (p1 : Int64) : Option Int64 := if 0 < (lg_cmp p0 p1) then some p1 else some p0
def Jd_bitCount {S : Type} (σ : S) (p0 : Int32) : Option Int32 := some ((((((((p0 - (((p0.toUInt32 >>> ((1 : Int32).toUInt32 &&& Int32.toUInt32 31)).toInt32) &&& 1431655765)) &&& 858993459) + ((((p0 - (((p0.toUInt32 >>> ((1 : Int32).toUInt32 &&& Int32.toUInt32 31)).toInt32) &&& 1431655765)).toUInt32 >>> ((2 : Int32).toUInt32 &&& Int32.toUInt32 31)).toInt32) &&& 858993459)) + (((((p0 - (((p0.toUInt32 >>> ((1 : Int32).toUInt32 &&& Int32.toUInt32 31)).toInt32) &&& 1431655765)) &&& 858993459) + ((((p0 - (((p0.toUInt32 >>> ((1 : Int32).toUInt32 &&& Int32.toUInt32 31)).toInt32) &&& 1431655765)).toUInt32 >>> ((2 : Int32).toUInt32 &&& Int32.toUInt32 31)).toInt32) &&& 858993459)).toUInt32 >>> ((4 : Int32).toUInt32 &&& Int32.toUInt32 31)).toInt32)) &&& 252645135) + (((((((p0 - (((p0.toUInt32 >>> ((1 : Int32).toUInt32 &&& Int32.toUInt32 31)).toInt32) &&& 1431655765)) &&& 858993459) + ((((p0 - (((p0.toUInt32 >>> ((1 : Int32).toUInt32 &&& Int32.toUInt32 31)).toInt32) &&& 1431655765)).toUInt32 >>> ((2 : Int32).toUInt32 &&& Int32.toUInt32 31)).toInt32) &&& 858993459)) + (((((p0 - (((p0.toUInt32 >>> ((1 : Int32).toUInt32 &&& Int32.toUInt32 31)).toInt32) &&& 1431655765)) &&& 858993459) + ((((p0 - (((p0.toUInt32 >>> ((1 : Int32).toUInt32 &&& Int32.toUInt32 31)).toInt32) &&& 1431655765)).toUInt32 >>> ((2 : Int32).toUInt32 &&& Int32.toUInt32 31)).toInt32) &&& 858993459)).toUInt32 >>> ((4 : Int32).toUInt32 &&& Int32.toUInt32 31)).toInt32)) &&& 252645135).toUInt32 >>> ((8 : Int32).toUInt32 &&& Int32.toUInt32 31)).toInt32)) + ((((((((p0 - (((p0.toUInt32 >>> ((1 : Int32).toUInt32 &&& Int32.toUInt32 31)).toInt32) &&& 1431655765)) &&& 858993459) + ((((p0 - (((p0.toUInt32 >>> ((1 : Int32).toUInt32 &&& Int32.toUInt32 31)).toInt32) &&& 1431655765)).toUInt32 >>> ((2 : Int32).toUInt32 &&& Int32.toUInt32 31)).toInt32) &&& 858993459)) + (((((p0 - (((p0.toUInt32 >>> ((1 : Int32).toUInt32 &&& Int32.toUInt32 31)).toInt32) &&& 1431655765)) &&& 858993459) + ((((p0 - (((p0.toUInt32 >>> ((1 : Int32).toUInt32 &&& Int32.toUInt32 31)).toInt32) &&& 1431655765)).toUInt32 >>> ((2 : Int32).toUInt32 &&& Int32.toUInt32 31)).toInt32) &&& 858993459)).toUInt32 >>> ((4 : Int32).toUInt32 &&& Int32.toUInt32 31)).toInt32)) &&& 252645135) + (((((((p0 - (((p0.toUInt32 >>> ((1 : Int32).toUInt32 &&& Int32.toUInt32 31)).toInt32) &&& 1431655765)) &&& 858993459) + ((((p0 - (((p0.toUInt32 >>> ((1 : Int32).toUInt32 &&& Int32.toUInt32 31)).toInt32) &&& 1431655765)).toUInt32 >>> ((2 : Int32).toUInt32 &&& Int32.toUInt32 31)).toInt32) &&& 858993459)) + (((((p0 - (((p0.toUInt32 >>> ((1 : Int32).toUInt32 &&& Int32.toUInt32 31)).toInt32) &&& 1431655765)) &&& 858993459) + ((((p0 - (((p0.toUInt32 >>> ((1 : Int32).toUInt32 &&& Int32.toUInt32 31)).toInt32) &&& 1431655765)).toUInt32 >>> ((2 : Int32).toUInt32 &&& Int32.toUInt32 31)).toInt32) &&& 858993459)).toUInt32 >>> ((4 : Int32).toUInt32 &&& Int32.toUInt32 31)).toInt32)) &&& 252645135).toUInt32 >>> ((8 : Int32).toUInt32 &&& Int32.toUInt32 31)).toInt32)).toUInt32 >>> ((16 : Int32).toUInt32 &&& Int32.toUInt32 31)).toInt32)) &&& 63)
section G
variable {z : ZZ} {x : XX} {ad : Nat → Nat} 
theorem dJ9_max_7cf53_0 : decode cJ9_max_7cf53 0 = .ok (.iload_n 0, 1) := by decide +kernel
theorem dJ9_max_7cf53_1 : decode cJ9_max_7cf53 1 = .ok (.iload_n 1, 1) := by decide +kernel
theorem dJ9_max_7cf53_2 : decode cJ9_max_7cf53 2 = .ok (.if_icmp .lt 7, 3) := by decide +kernel
theorem dJ9_max_7cf53_5 : decode cJ9_max_7cf53 5 = .ok (.iload_n 0, 1) := by decide +kernel
theorem dJ9_max_7cf53_6 : decode cJ9_max_7cf53 6 = .ok (.goto 4, 3) := by decide +kernel
theorem dJ9_max_7cf53_9 : decode cJ9_max_7cf53 9 = .ok (.iload_n 1, 1) := by decide +kernel
theorem dJ9_max_7cf53_10 : decode cJ9_max_7cf53 10 = .ok (.ireturn, 1) := by decide +kernel
set_option maxRecDepth 100000 in
theorem c_Jd_maxI {S : Type} {w : (Nat → Nat) → S → va_W} (σ : S) (p0 : Int32) (p1 : Int32) : Ct z w rI eqA yJ9_max_7cf53 cJ9_max_7cf53 2 (some .int) 1 0 0 [.int p0, .int p1] σ ((Jd_maxI σ p0 p1).map fun r => (r, σ)) := by
  refine Ct.of (by decide) (Nat.le_of_ble_eq_true rfl) (fun ad x hC hR _ => ?_)
  show AT z x 2 w rI (eqA ad) 0 0 0 0 ad 0 [(0, .int p0), (1, .int p1)] [] σ ((Jd_maxI σ p0 p1).map fun r => (r, σ))
  unfold Jd_maxI
  refine at_iload_n (j := 0) hC rfl rfl dJ9_max_7cf53_0 ?_
  refine at_iload_n (j := 1) hC rfl rfl dJ9_max_7cf53_1 ?_
  refine ap_icmp_lt (tgt := 9) hC dJ9_max_7cf53_2 rfl (fun _ => ?_) (fun _ => ?_)
  · refine at_iload_n (j := 1) hC rfl rfl dJ9_max_7cf53_9 ?_
    exact at_iret (F := eqA ad) (ra := rI) hC dJ9_max_7cf53_10 rfl (Nat.le_refl 0) (Nat.le_refl 0) rfl
  · refine at_iload_n (j := 0) hC rfl rfl dJ9_max_7cf53_5 ?_
    refine at_goto (tgt := 10) hC dJ9_max_7cf53_6 rfl ?_
    exact at_iret (F := eqA ad) (ra := rI) hC dJ9_max_7cf53_10 rfl (Nat.le_refl 0) (Nat.le_refl 0) rfl
theorem dJ9_max_f86c9_0 : decode cJ9_max_f86c9 0 = .ok (.lload_n 0, 1) := by decide +kernel
theorem dJ9_max_f86c9_1 : decode cJ9_max_f86c9 1 = .ok (.lload_n 2, 1) := by decide +kernel
theorem dJ9_max_f86c9_2 : decode cJ9_max_f86c9 2 = .ok (.lcmp, 1) := by decide +kernel
theorem dJ9_max_f86c9_3 : decode cJ9_max_f86c9 3 = .ok (.ifCond .lt 7, 3) := by decide +kernel
theorem dJ9_max_f86c9_6 : decode cJ9_max_f86c9 6 = .ok (.lload_n 0, 1) := by decide +kernel
theorem dJ9_max_f86c9_7 : decode cJ9_max_f86c9 7 = .ok (.goto 4, 3) := by decide +kernel
theorem dJ9_max_f86c9_10 : decode cJ9_max_f86c9 10 = .ok (.lload_n 2, 1) := by decide +kernel
theorem dJ9_max_f86c9_11 : decode cJ9_max_f86c9 11 = .ok (.lreturn, 1) := by decide +kernel
set_option maxRecDepth 100000 in
theorem c_Jd_maxJ {S : Type} {w : (Nat → Nat) → S → va_W} (σ : S) (p0 : Int64) (p1 : Int64) : Ct z w rJ eqA yJ9_max_f86c9 cJ9_max_f86c9 4 (some .long) 1 0 0 [.long p0, .long p1] σ ((Jd_maxJ σ p0 p1).map fun r => (r, σ)) := by
  refine Ct.of (by decide) (Nat.le_of_ble_eq_true rfl) (fun ad x hC hR _ => ?_)
  show AT z x 4 w rJ (eqA ad) 0 0 0 0 ad 0 [(0, .long p0), (2, .long p1)] [] σ ((Jd_maxJ σ p0 p1).map fun r => (r, σ))
  unfold Jd_maxJ
  refine at_lload_n (j := 0) hC rfl rfl dJ9_max_f86c9_0 ?_
  refine at_lload_n (j := 1) hC rfl rfl dJ9_max_f86c9_1 ?_
  refine at_lcmp hC dJ9_max_f86c9_2 ?_
  refine ap_if_lt (tgt := 10) hC dJ9_max_f86c9_3 rfl (fun _ => ?_) (fun _ => ?_)
  · refine at_lload_n (j := 1) hC rfl rfl dJ9_max_f86c9_10 ?_
    exact at_lret (F := eqA ad) (ra := rJ) hC dJ9_max_f86c9_11 rfl (Nat.le_refl 0) (Nat.le_refl 0) rfl
  · refine at_lload_n (j := 0) hC rfl rfl dJ9_max_f86c9_6 ?_
    refine at_goto (tgt := 11) hC dJ9_max_f86c9_7 rfl ?_
    exact at_lret (F := eqA ad) (ra := rJ) hC dJ9_max_f86c9_11 rfl (Nat.le_refl 0) (Nat.le_refl 0) rfl
theorem dJ9_min_7cf53_0 : decode cJ9_min_7cf53 0 = .ok (.iload_n 0, 1) := by decide +kernel
theorem dJ9_min_7cf53_1 : decode cJ9_min_7cf53 1 = .ok (.iload_n 1, 1) := by decide +kernel
theorem dJ9_min_7cf53_2 : decode cJ9_min_7cf53 2 = .ok (.if_icmp .gt 7, 3) := by decide +kernel
theorem dJ9_min_7cf53_5 : decode cJ9_min_7cf53 5 = .ok (.iload_n 0, 1) := by decide +kernel
theorem dJ9_min_7cf53_6 : decode cJ9_min_7cf53 6 = .ok (.goto 4, 3) := by decide +kernel
theorem dJ9_min_7cf53_9 : decode cJ9_min_7cf53 9 = .ok (.iload_n 1, 1) := by decide +kernel
theorem dJ9_min_7cf53_10 : decode cJ9_min_7cf53 10 = .ok (.ireturn, 1) := by decide +kernel
set_option maxRecDepth 100000 in
theorem c_Jd_minI {S : Type} {w : (Nat → Nat) → S → va_W} (σ : S) (p0 : Int32) (p1 : Int32) : Ct z w rI eqA yJ9_min_7cf53 cJ9_min_7cf53 2 (some .int) 1 0 0 [.int p0, .int p1] σ ((Jd_minI σ p0 p1).map fun r => (r, σ)) := by
  refine Ct.of (by decide) (Nat.le_of_ble_eq_true rfl) (fun ad x hC hR _ => ?_)
  show AT z x 2 w rI (eqA ad) 0 0 0 0 ad 0 [(0, .int p0), (1, .int p1)] [] σ ((Jd_minI σ p0 p1).map fun r => (r, σ))
  unfold Jd_minI
  refine at_iload_n (j := 0) hC rfl rfl dJ9_min_7cf53_0 ?_
  refine at_iload_n (j := 1) hC rfl rfl dJ9_min_7cf53_1 ?_
  refine ap_icmp_gt (tgt := 9) hC dJ9_min_7cf53_2 rfl (fun _ => ?_) (fun _ => ?_)
  · refine at_iload_n (j := 1) hC rfl rfl dJ9_min_7cf53_9 ?_
    exact at_iret (F := eqA ad) (ra := rI) hC dJ9_min_7cf53_10 rfl (Nat.le_refl 0) (Nat.le_refl 0) rfl
  · refine at_iload_n (j := 0) hC rfl rfl dJ9_min_7cf53_5 ?_
    refine at_goto (tgt := 10) hC dJ9_min_7cf53_6 rfl ?_
    exact at_iret (F := eqA ad) (ra := rI) hC dJ9_min_7cf53_10 rfl (Nat.le_refl 0) (Nat.le_refl 0) rfl
theorem dJ9_min_f86c9_0 : decode cJ9_min_f86c9 0 = .ok (.lload_n 0, 1) := by decide +kernel
theorem dJ9_min_f86c9_1 : decode cJ9_min_f86c9 1 = .ok (.lload_n 2, 1) := by decide +kernel
theorem dJ9_min_f86c9_2 : decode cJ9_min_f86c9 2 = .ok (.lcmp, 1) := by decide +kernel
theorem dJ9_min_f86c9_3 : decode cJ9_min_f86c9 3 = .ok (.ifCond .gt 7, 3) := by decide +kernel
theorem dJ9_min_f86c9_6 : decode cJ9_min_f86c9 6 = .ok (.lload_n 0, 1) := by decide +kernel
theorem dJ9_min_f86c9_7 : decode cJ9_min_f86c9 7 = .ok (.goto 4, 3) := by decide +kernel
theorem dJ9_min_f86c9_10 : decode cJ9_min_f86c9 10 = .ok (.lload_n 2, 1) := by decide +kernel
theorem dJ9_min_f86c9_11 : decode cJ9_min_f86c9 11 = .ok (.lreturn, 1) := by decide +kernel
set_option maxRecDepth 100000 in
theorem c_Jd_minJ {S : Type} {w : (Nat → Nat) → S → va_W} (σ : S) (p0 : Int64) (p1 : Int64) : Ct z w rJ eqA yJ9_min_f86c9 cJ9_min_f86c9 4 (some .long) 1 0 0 [.long p0, .long p1] σ ((Jd_minJ σ p0 p1).map fun r => (r, σ)) := by
  refine Ct.of (by decide) (Nat.le_of_ble_eq_true rfl) (fun ad x hC hR _ => ?_)
  show AT z x 4 w rJ (eqA ad) 0 0 0 0 ad 0 [(0, .long p0), (2, .long p1)] [] σ ((Jd_minJ σ p0 p1).map fun r => (r, σ))
  unfold Jd_minJ
  refine at_lload_n (j := 0) hC rfl rfl dJ9_min_f86c9_0 ?_
  refine at_lload_n (j := 1) hC rfl rfl dJ9_min_f86c9_1 ?_
  refine at_lcmp hC dJ9_min_f86c9_2 ?_
  refine ap_if_gt (tgt := 10) hC dJ9_min_f86c9_3 rfl (fun _ => ?_) (fun _ => ?_)
  · refine at_lload_n (j := 1) hC rfl rfl dJ9_min_f86c9_10 ?_
    exact at_lret (F := eqA ad) (ra := rJ) hC dJ9_min_f86c9_11 rfl (Nat.le_refl 0) (Nat.le_refl 0) rfl
  · refine at_lload_n (j := 0) hC rfl rfl dJ9_min_f86c9_6 ?_
    refine at_goto (tgt := 11) hC dJ9_min_f86c9_7 rfl ?_
    exact at_lret (F := eqA ad) (ra := rJ) hC dJ9_min_f86c9_11 rfl (Nat.le_refl 0) (Nat.le_refl 0) rfl
theorem dJ6_bitCount_0f7a4_0 : decode cJ6_bitCount_0f7a4 0 = .ok (.iload_n 0, 1) := by decide +kernel
theorem dJ6_bitCount_0f7a4_1 : decode cJ6_bitCount_0f7a4 1 = .ok (.iload_n 0, 1) := by decide +kernel
theorem dJ6_bitCount_0f7a4_2 : decode cJ6_bitCount_0f7a4 2 = .ok (.iconst 1, 1) := by decide +kernel
theorem dJ6_bitCount_0f7a4_3 : decode cJ6_bitCount_0f7a4 3 = .ok (.iushr, 1) := by decide +kernel
theorem dJ6_bitCount_0f7a4_4 : decode cJ6_bitCount_0f7a4 4 = .ok (.ldc_w 265, 3) := by decide +kernel
theorem dJ6_bitCount_0f7a4_7 : decode cJ6_bitCount_0f7a4 7 = .ok (.iand, 1) := by decide +kernel
theorem dJ6_bitCount_0f7a4_8 : decode cJ6_bitCount_0f7a4 8 = .ok (.isub, 1) := by decide +kernel
theorem dJ6_bitCount_0f7a4_9 : decode cJ6_bitCount_0f7a4 9 = .ok (.istore_n 0, 1) := by decide +kernel
theorem dJ6_bitCount_0f7a4_10 : decode cJ6_bitCount_0f7a4 10 = .ok (.iload_n 0, 1) := by decide +kernel
theorem dJ6_bitCount_0f7a4_11 : decode cJ6_bitCount_0f7a4 11 = .ok (.ldc_w 266, 3) := by decide +kernel
theorem dJ6_bitCount_0f7a4_14 : decode cJ6_bitCount_0f7a4 14 = .ok (.iand, 1) := by decide +kernel
theorem dJ6_bitCount_0f7a4_15 : decode cJ6_bitCount_0f7a4 15 = .ok (.iload_n 0, 1) := by decide +kernel
theorem dJ6_bitCount_0f7a4_16 : decode cJ6_bitCount_0f7a4 16 = .ok (.iconst 2, 1) := by decide +kernel
theorem dJ6_bitCount_0f7a4_17 : decode cJ6_bitCount_0f7a4 17 = .ok (.iushr, 1) := by decide +kernel
theorem dJ6_bitCount_0f7a4_18 : decode cJ6_bitCount_0f7a4 18 = .ok (.ldc_w 266, 3) := by decide +kernel
theorem dJ6_bitCount_0f7a4_21 : decode cJ6_bitCount_0f7a4 21 = .ok (.iand, 1) := by decide +kernel
theorem dJ6_bitCount_0f7a4_22 : decode cJ6_bitCount_0f7a4 22 = .ok (.iadd, 1) := by decide +kernel
theorem dJ6_bitCount_0f7a4_23 : decode cJ6_bitCount_0f7a4 23 = .ok (.istore_n 0, 1) := by decide +kernel
theorem dJ6_bitCount_0f7a4_24 : decode cJ6_bitCount_0f7a4 24 = .ok (.iload_n 0, 1) := by decide +kernel
theorem dJ6_bitCount_0f7a4_25 : decode cJ6_bitCount_0f7a4 25 = .ok (.iload_n 0, 1) := by decide +kernel
theorem dJ6_bitCount_0f7a4_26 : decode cJ6_bitCount_0f7a4 26 = .ok (.iconst 4, 1) := by decide +kernel
theorem dJ6_bitCount_0f7a4_27 : decode cJ6_bitCount_0f7a4 27 = .ok (.iushr, 1) := by decide +kernel
theorem dJ6_bitCount_0f7a4_28 : decode cJ6_bitCount_0f7a4 28 = .ok (.iadd, 1) := by decide +kernel
theorem dJ6_bitCount_0f7a4_29 : decode cJ6_bitCount_0f7a4 29 = .ok (.ldc_w 267, 3) := by decide +kernel
theorem dJ6_bitCount_0f7a4_32 : decode cJ6_bitCount_0f7a4 32 = .ok (.iand, 1) := by decide +kernel
theorem dJ6_bitCount_0f7a4_33 : decode cJ6_bitCount_0f7a4 33 = .ok (.istore_n 0, 1) := by decide +kernel
theorem dJ6_bitCount_0f7a4_34 : decode cJ6_bitCount_0f7a4 34 = .ok (.iload_n 0, 1) := by decide +kernel
theorem dJ6_bitCount_0f7a4_35 : decode cJ6_bitCount_0f7a4 35 = .ok (.iload_n 0, 1) := by decide +kernel
theorem dJ6_bitCount_0f7a4_36 : decode cJ6_bitCount_0f7a4 36 = .ok (.bipush 8, 2) := by decide +kernel
theorem dJ6_bitCount_0f7a4_38 : decode cJ6_bitCount_0f7a4 38 = .ok (.iushr, 1) := by decide +kernel
theorem dJ6_bitCount_0f7a4_39 : decode cJ6_bitCount_0f7a4 39 = .ok (.iadd, 1) := by decide +kernel
theorem dJ6_bitCount_0f7a4_40 : decode cJ6_bitCount_0f7a4 40 = .ok (.istore_n 0, 1) := by decide +kernel
theorem dJ6_bitCount_0f7a4_41 : decode cJ6_bitCount_0f7a4 41 = .ok (.iload_n 0, 1) := by decide +kernel
theorem dJ6_bitCount_0f7a4_42 : decode cJ6_bitCount_0f7a4 42 = .ok (.iload_n 0, 1) := by decide +kernel
theorem dJ6_bitCount_0f7a4_43 : decode cJ6_bitCount_0f7a4 43 = .ok (.bipush 16, 2) := by decide +kernel
theorem dJ6_bitCount_0f7a4_45 : decode cJ6_bitCount_0f7a4 45 = .ok (.iushr, 1) := by decide +kernel
theorem dJ6_bitCount_0f7a4_46 : decode cJ6_bitCount_0f7a4 46 = .ok (.iadd, 1) := by decide +kernel
theorem dJ6_bitCount_0f7a4_47 : decode cJ6_bitCount_0f7a4 47 = .ok (.istore_n 0, 1) := by decide +kernel
theorem dJ6_bitCount_0f7a4_48 : decode cJ6_bitCount_0f7a4 48 = .ok (.iload_n 0, 1) := by decide +kernel
theorem dJ6_bitCount_0f7a4_49 : decode cJ6_bitCount_0f7a4 49 = .ok (.bipush 63, 2) := by decide +kernel
theorem dJ6_bitCount_0f7a4_51 : decode cJ6_bitCount_0f7a4 51 = .ok (.iand, 1) := by decide +kernel
theorem dJ6_bitCount_0f7a4_52 : decode cJ6_bitCount_0f7a4 52 = .ok (.ireturn, 1) := by decide +kernel
set_option maxRecDepth 100000 in
theorem c_Jd_bitCount {S : Type} {w : (Nat → Nat) → S → va_W} (σ : S) (p0 : Int32) : Ct z w rI eqA yJ6_bitCount_0f7a4 cJ6_bitCount_0f7a4 1 (some .int) 1 0 0 [.int p0] σ ((Jd_bitCount σ p0).map fun r => (r, σ)) := by
  refine Ct.of (by decide) (Nat.le_of_ble_eq_true rfl) (fun ad x hC hR _ => ?_)
  show AT z x 1 w rI (eqA ad) 0 0 0 0 ad 0 [(0, .int p0)] [] σ ((Jd_bitCount σ p0).map fun r => (r, σ))
  unfold Jd_bitCount
  refine at_iload_n (j := 0) hC rfl rfl dJ6_bitCount_0f7a4_0 ?_
  refine at_iload_n (j := 0) hC rfl rfl dJ6_bitCount_0f7a4_1 ?_
  refine at_iconst hC ic_1 dJ6_bitCount_0f7a4_2 ?_
  refine at_iushr hC dJ6_bitCount_0f7a4_3 ?_
  refine at_ldcw hC kc_J6_265 dJ6_bitCount_0f7a4_4 ?_
  refine at_iand hC dJ6_bitCount_0f7a4_7 ?_
  refine at_isub hC dJ6_bitCount_0f7a4_8 ?_
  refine at_istore_n (lv' := [(0, .int (p0 - (((p0.toUInt32 >>> ((1 : Int32).toUInt32 &&& Int32.toUInt32 31)).toInt32) &&& 1431655765)))]) hC rfl dJ6_bitCount_0f7a4_9 (by decide) rfl ?_
  refine at_iload_n (j := 0) hC rfl rfl dJ6_bitCount_0f7a4_10 ?_
  refine at_ldcw hC kc_J6_266 dJ6_bitCount_0f7a4_11 ?_
  refine at_iand hC dJ6_bitCount_0f7a4_14 ?_
  refine at_iload_n (j := 0) hC rfl rfl dJ6_bitCount_0f7a4_15 ?_
  refine at_iconst hC ic_2 dJ6_bitCount_0f7a4_16 ?_
  refine at_iushr hC dJ6_bitCount_0f7a4_17 ?_
  refine at_ldcw hC kc_J6_266 dJ6_bitCount_0f7a4_18 ?_
  refine at_iand hC dJ6_bitCount_0f7a4_21 ?_
  refine at_iadd hC dJ6_bitCount_0f7a4_22 ?_
  refine at_istore_n (lv' := [(0, .int (((p0 - (((p0.toUInt32 >>> ((1 : Int32).toUInt32 &&& Int32.toUInt32 31)).toInt32) &&& 1431655765)) &&& 858993459) + ((((p0 - (((p0.toUInt32 >>> ((1 : Int32).toUInt32 &&& Int32.toUInt32 31)).toInt32) &&& 1431655765)).toUInt32 >>> ((2 : Int32).toUInt32 &&& Int32.toUInt32 31)).toInt32) &&& 858993459)))]) hC rfl dJ6_bitCount_0f7a4_23 (by decide) rfl ?_
  refine at_iload_n (j := 0) hC rfl rfl dJ6_bitCount_0f7a4_24 ?_
  refine at_iload_n (j := 0) hC rfl rfl dJ6_bitCount_0f7a4_25 ?_
  refine at_iconst hC ic_4 dJ6_bitCount_0f7a4_26 ?_
  refine at_iushr hC dJ6_bitCount_0f7a4_27 ?_
  refine at_iadd hC dJ6_bitCount_0f7a4_28 ?_
  refine at_ldcw hC kc_J6_267 dJ6_bitCount_0f7a4_29 ?_
  refine at_iand hC dJ6_bitCount_0f7a4_32 ?_
  refine at_istore_n (lv' := [(0, .int (((((p0 - (((p0.toUInt32 >>> ((1 : Int32).toUInt32 &&& Int32.toUInt32 31)).toInt32) &&& 1431655765)) &&& 858993459) + ((((p0 - (((p0.toUInt32 >>> ((1 : Int32).toUInt32 &&& Int32.toUInt32 31)).toInt32) &&& 1431655765)).toUInt32 >>> ((2 : Int32).toUInt32 &&& Int32.toUInt32 31)).toInt32) &&& 858993459)) + (((((p0 - (((p0.toUInt32 >>> ((1 : Int32).toUInt32 &&& Int32.toUInt32 31)).toInt32) &&& 1431655765)) &&& 858993459) + ((((p0 - (((p0.toUInt32 >>> ((1 : Int32).toUInt32 &&& Int32.toUInt32 31)).toInt32) &&& 1431655765)).toUInt32 >>> ((2 : Int32).toUInt32 &&& Int32.toUInt32 31)).toInt32) &&& 858993459)).toUInt32 >>> ((4 : Int32).toUInt32 &&& Int32.toUInt32 31)).toInt32)) &&& 252645135))]) hC rfl dJ6_bitCount_0f7a4_33 (by decide) rfl ?_
  refine at_iload_n (j := 0) hC rfl rfl dJ6_bitCount_0f7a4_34 ?_
  refine at_iload_n (j := 0) hC rfl rfl dJ6_bitCount_0f7a4_35 ?_
  refine at_bipush hC bi_8 dJ6_bitCount_0f7a4_36 ?_
  refine at_iushr hC dJ6_bitCount_0f7a4_38 ?_
  refine at_iadd hC dJ6_bitCount_0f7a4_39 ?_
  refine at_istore_n (lv' := [(0, .int ((((((p0 - (((p0.toUInt32 >>> ((1 : Int32).toUInt32 &&& Int32.toUInt32 31)).toInt32) &&& 1431655765)) &&& 858993459) + ((((p0 - (((p0.toUInt32 >>> ((1 : Int32).toUInt32 &&& Int32.toUInt32 31)).toInt32) &&& 1431655765)).toUInt32 >>> ((2 : Int32).toUInt32 &&& Int32.toUInt32 31)).toInt32) &&& 858993459)) + (((((p0 - (((p0.toUInt32 >>> ((1 : Int32).toUInt32 &&& Int32.toUInt32 31)).toInt32) &&& 1431655765)) &&& 858993459) + ((((p0 - (((p0.toUInt32 >>> ((1 : Int32).toUInt32 &&& Int32.toUInt32 31)).toInt32) &&& 1431655765)).toUInt32 >>> ((2 : Int32).toUInt32 &&& Int32.toUInt32 31)).toInt32) &&& 858993459)).toUInt32 >>> ((4 : Int32).toUInt32 &&& Int32.toUInt32 31)).toInt32)) &&& 252645135) + (((((((p0 - (((p0.toUInt32 >>> ((1 : Int32).toUInt32 &&& Int32.toUInt32 31)).toInt32) &&& 1431655765)) &&& 858993459) + ((((p0 - (((p0.toUInt32 >>> ((1 : Int32).toUInt32 &&& Int32.toUInt32 31)).toInt32) &&& 1431655765)).toUInt32 >>> ((2 : Int32).toUInt32 &&& Int32.toUInt32 31)).toInt32) &&& 858993459)) + (((((p0 - (((p0.toUInt32 >>> ((1 : Int32).toUInt32 &&& Int32.toUInt32 31)).toInt32) &&& 1431655765)) &&& 858993459) + ((((p0 - (((p0.toUInt32 >>> ((1 : Int32).toUInt32 &&& Int32.toUInt32 31)).toInt32) &&& 1431655765)).toUInt32 >>> ((2 : Int32).toUInt32 &&& Int32.toUInt32 31)).toInt32) &&& 858993459)).toUInt32 >>> ((4 : Int32).toUInt32 &&& Int32.toUInt32 31)).toInt32)) &&& 252645135).toUInt32 >>> ((8 : Int32).toUInt32 &&& Int32.toUInt32 31)).toInt32)))]) hC rfl dJ6_bitCount_0f7a4_40 (by decide) rfl ?_
  refine at_iload_n (j := 0) hC rfl rfl dJ6_bitCount_0f7a4_41 ?_
  refine at_iload_n (j := 0) hC rfl rfl dJ6_bitCount_0f7a4_42 ?_
  refine at_bipush hC bi_16 dJ6_bitCount_0f7a4_43 ?_
  refine at_iushr hC dJ6_bitCount_0f7a4_45 ?_
  refine at_iadd hC dJ6_bitCount_0f7a4_46 ?_
  refine at_istore_n (lv' := [(0, .int (((((((p0 - (((p0.toUInt32 >>> ((1 : Int32).toUInt32 &&& Int32.toUInt32 31)).toInt32) &&& 1431655765)) &&& 858993459) + ((((p0 - (((p0.toUInt32 >>> ((1 : Int32).toUInt32 &&& Int32.toUInt32 31)).toInt32) &&& 1431655765)).toUInt32 >>> ((2 : Int32).toUInt32 &&& Int32.toUInt32 31)).toInt32) &&& 858993459)) + (((((p0 - (((p0.toUInt32 >>> ((1 : Int32).toUInt32 &&& Int32.toUInt32 31)).toInt32) &&& 1431655765)) &&& 858993459) + ((((p0 - (((p0.toUInt32 >>> ((1 : Int32).toUInt32 &&& Int32.toUInt32 31)).toInt32) &&& 1431655765)).toUInt32 >>> ((2 : Int32).toUInt32 &&& Int32.toUInt32 31)).toInt32) &&& 858993459)).toUInt32 >>> ((4 : Int32).toUInt32 &&& Int32.toUInt32 31)).toInt32)) &&& 252645135) + (((((((p0 - (((p0.toUInt32 >>> ((1 : Int32).toUInt32 &&& Int32.toUInt32 31)).toInt32) &&& 1431655765)) &&& 858993459) + ((((p0 - (((p0.toUInt32 >>> ((1 : Int32).toUInt32 &&& Int32.toUInt32 31)).toInt32) &&& 1431655765)).toUInt32 >>> ((2 : Int32).toUInt32 &&& Int32.toUInt32 31)).toInt32) &&& 858993459)) + (((((p0 - (((p0.toUInt32 >>> ((1 : Int32).toUInt32 &&& Int32.toUInt32 31)).toInt32) &&& 1431655765)) &&& 858993459) + ((((p0 - (((p0.toUInt32 >>> ((1 : Int32).toUInt32 &&& Int32.toUInt32 31)).toInt32) &&& 1431655765)).toUInt32 >>> ((2 : Int32).toUInt32 &&& Int32.toUInt32 31)).toInt32) &&& 858993459)).toUInt32 >>> ((4 : Int32).toUInt32 &&& Int32.toUInt32 31)).toInt32)) &&& 252645135).toUInt32 >>> ((8 : Int32).toUInt32 &&& Int32.toUInt32 31)).toInt32)) + ((((((((p0 - (((p0.toUInt32 >>> ((1 : Int32).toUInt32 &&& Int32.toUInt32 31)).toInt32) &&& 1431655765)) &&& 858993459) + ((((p0 - (((p0.toUInt32 >>> ((1 : Int32).toUInt32 &&& Int32.toUInt32 31)).toInt32) &&& 1431655765)).toUInt32 >>> ((2 : Int32).toUInt32 &&& Int32.toUInt32 31)).toInt32) &&& 858993459)) + (((((p0 - (((p0.toUInt32 >>> ((1 : Int32).toUInt32 &&& Int32.toUInt32 31)).toInt32) &&& 1431655765)) &&& 858993459) + ((((p0 - (((p0.toUInt32 >>> ((1 : Int32).toUInt32 &&& Int32.toUInt32 31)).toInt32) &&& 1431655765)).toUInt32 >>> ((2 : Int32).toUInt32 &&& Int32.toUInt32 31)).toInt32) &&& 858993459)).toUInt32 >>> ((4 : Int32).toUInt32 &&& Int32.toUInt32 31)).toInt32)) &&& 252645135) + (((((((p0 - (((p0.toUInt32 >>> ((1 : Int32).toUInt32 &&& Int32.toUInt32 31)).toInt32) &&& 1431655765)) &&& 858993459) + ((((p0 - (((p0.toUInt32 >>> ((1 : Int32).toUInt32 &&& Int32.toUInt32 31)).toInt32) &&& 1431655765)).toUInt32 >>> ((2 : Int32).toUInt32 &&& Int32.toUInt32 31)).toInt32) &&& 858993459)) + (((((p0 - (((p0.toUInt32 >>> ((1 : Int32).toUInt32 &&& Int32.toUInt32 31)).toInt32) &&& 1431655765)) &&& 858993459) + ((((p0 - (((p0.toUInt32 >>> ((1 : Int32).toUInt32 &&& Int32.toUInt32 31)).toInt32) &&& 1431655765)).toUInt32 >>> ((2 : Int32).toUInt32 &&& Int32.toUInt32 31)).toInt32) &&& 858993459)).toUInt32 >>> ((4 : Int32).toUInt32 &&& Int32.toUInt32 31)).toInt32)) &&& 252645135).toUInt32 >>> ((8 : Int32).toUInt32 &&& Int32.toUInt32 31)).toInt32)).toUInt32 >>> ((16 : Int32).toUInt32 &&& Int32.toUInt32 31)).toInt32)))]) hC rfl dJ6_bitCount_0f7a4_47 (by decide) rfl ?_
  refine at_iload_n (j := 0) hC rfl rfl dJ6_bitCount_0f7a4_48 ?_
  refine at_bipush hC bi_63 dJ6_bitCount_0f7a4_49 ?_
  refine at_iand hC dJ6_bitCount_0f7a4_51 ?_
  exact at_iret (F := eqA ad) (ra := rI) hC dJ6_bitCount_0f7a4_52 rfl (Nat.le_refl 0) (Nat.le_refl 0) rfl
end G
