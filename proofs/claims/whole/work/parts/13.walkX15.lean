section G
variable {z : ZZ} {x : XX} {ad : Nat → Nat} {σ : MS}
theorem dX10_value_0 : decode cX10_value 0 = .ok (.iload_n 1, 1) := by decide +kernel
theorem dX10_value_1 : decode cX10_value 1 = .ok (.invokestatic 271, 3) := by decide +kernel
theorem dX10_value_4 : decode cX10_value 4 = .ok (.ifCond .eq 14, 3) := by decide +kernel
theorem dX10_value_7 : decode cX10_value 7 = .ok (.aload_n 0, 1) := by decide +kernel
theorem dX10_value_8 : decode cX10_value 8 = .ok (.getfield 14, 3) := by decide +kernel
theorem dX10_value_11 : decode cX10_value 11 = .ok (.iload_n 2, 1) := by decide +kernel
theorem dX10_value_12 : decode cX10_value 12 = .ok (.invokevirtual 171, 3) := by decide +kernel
theorem dX10_value_15 : decode cX10_value 15 = .ok (.ifCond .ne 7, 3) := by decide +kernel
theorem dX10_value_18 : decode cX10_value 18 = .ok (.ldc2_w 274, 3) := by decide +kernel
theorem dX10_value_21 : decode cX10_value 21 = .ok (.lreturn, 1) := by decide +kernel
theorem dX10_value_22 : decode cX10_value 22 = .ok (.aload_n 0, 1) := by decide +kernel
theorem dX10_value_23 : decode cX10_value 23 = .ok (.getfield 67, 3) := by decide +kernel
theorem dX10_value_26 : decode cX10_value 26 = .ok (.iload_n 2, 1) := by decide +kernel
theorem dX10_value_27 : decode cX10_value 27 = .ok (.invokevirtual 174, 3) := by decide +kernel
theorem dX10_value_30 : decode cX10_value 30 = .ok (.aload_n 0, 1) := by decide +kernel
theorem dX10_value_31 : decode cX10_value 31 = .ok (.getfield 67, 3) := by decide +kernel
theorem dX10_value_34 : decode cX10_value 34 = .ok (.iload_n 1, 1) := by decide +kernel
theorem dX10_value_35 : decode cX10_value 35 = .ok (.invokevirtual 306, 3) := by decide +kernel
theorem dX10_value_38 : decode cX10_value 38 = .ok (.aload_n 0, 1) := by decide +kernel
theorem dX10_value_39 : decode cX10_value 39 = .ok (.getfield 67, 3) := by decide +kernel
theorem dX10_value_42 : decode cX10_value 42 = .ok (.aload_n 0, 1) := by decide +kernel
theorem dX10_value_43 : decode cX10_value 43 = .ok (.getfield 51, 3) := by decide +kernel
theorem dX10_value_46 : decode cX10_value 46 = .ok (.iload_n 1, 1) := by decide +kernel
theorem dX10_value_47 : decode cX10_value 47 = .ok (.bipush 100, 2) := by decide +kernel
theorem dX10_value_49 : decode cX10_value 49 = .ok (.imul, 1) := by decide +kernel
theorem dX10_value_50 : decode cX10_value 50 = .ok (.bipush 100, 2) := by decide +kernel
theorem dX10_value_52 : decode cX10_value 52 = .ok (.iadd, 1) := by decide +kernel
theorem dX10_value_53 : decode cX10_value 53 = .ok (.iconst 1, 1) := by decide +kernel
theorem dX10_value_54 : decode cX10_value 54 = .ok (.isub, 1) := by decide +kernel
theorem dX10_value_55 : decode cX10_value 55 = .ok (.invokevirtual 344, 3) := by decide +kernel
theorem dX10_value_58 : decode cX10_value 58 = .ok (.ladd, 1) := by decide +kernel
theorem dX10_value_59 : decode cX10_value 59 = .ok (.lreturn, 1) := by decide +kernel
set_option maxRecDepth 100000 in
theorem c_W_value (τ : XS) (p0 : Int32) (p1 : Int32) : Ct z (wX z σ) rJ eqA yX10_value cX10_value 3 (some .long) 11 0 0 [.ref 36, .int p0, .int p1] τ (W_value τ p0 p1) := by
  refine Ct.of (by decide) (Nat.le_of_ble_eq_true rfl) (fun ad x hC hR _ => ?_)
  show AT z x 3 (wX z σ) rJ (eqA ad) 0 0 0 0 ad 0 [(0, .ref 36), (1, .int p0), (2, .int p1)] [] τ (W_value τ p0 p1)
  unfold W_value
  refine at_iload_n (j := 1) hC rfl rfl dX10_value_0 ?_
  refine at_callSpI hC hR lk_X10_271 (c_W_isYear τ p0) dX10_value_1 rfl rfl ⟨by decide, by decide⟩ (Nat.le_of_ble_eq_true rfl) ⟨Nat.le_refl 0, Nat.le_refl 0⟩ (fun r1 _ => ?_)
  refine at_if_eq (tgt := 18) hC dX10_value_4 rfl (fun _ => ?_) (fun _ => ?_)
  · refine at_ldc2 hC kl_X10_274 dX10_value_18 ?_
    exact at_lret (F := eqA ad) (ra := rJ) hC dX10_value_21 rfl (Nat.le_refl 0) (Nat.le_refl 0) rfl
  · refine at_aload_n (j := 0) hC rfl rfl dX10_value_7 ?_
    refine gf_X10_14 hC dX10_value_8 ?_
    refine at_iload_n (j := 2) hC rfl rfl dX10_value_11 ?_
    refine at_callVpI hC hR lk_X10_171 (c_Bk_isReach τ p1) dX10_value_12 recX1 rfl rfl ⟨by decide, by decide⟩ (Nat.le_of_ble_eq_true rfl) ⟨Nat.le_refl 0, Nat.le_refl 0⟩ (fun r2 _ => ?_)
    refine at_if_ne (tgt := 22) hC dX10_value_15 rfl (fun _ => ?_) (fun _ => ?_)
    · refine at_aload_n (j := 0) hC rfl rfl dX10_value_22 ?_
      refine gf_X10_67 hC dX10_value_23 ?_
      refine at_iload_n (j := 2) hC rfl rfl dX10_value_26 ?_
      refine at_callVU hC hR lk_X10_174 (c_Cn_look τ p1) dX10_value_27 recX2 rfl rfl ⟨by decide, by decide⟩ (Nat.le_of_ble_eq_true rfl) ⟨Nat.le_refl 0, Nat.le_refl 0⟩ (fun r3 r3s _ => ?_)
      refine at_aload_n (j := 0) hC rfl rfl dX10_value_30 ?_
      refine gf_X10_67 hC dX10_value_31 ?_
      refine at_iload_n (j := 1) hC rfl rfl dX10_value_34 ?_
      refine at_callVJ hC hR lk_X10_306 (c_Cn_chestBehind r3s p0) dX10_value_35 recX2 rfl rfl ⟨by decide, by decide⟩ (Nat.le_of_ble_eq_true rfl) ⟨Nat.le_refl 0, Nat.le_refl 0⟩ (fun r4 r4s _ => ?_)
      refine at_aload_n (j := 0) hC rfl rfl dX10_value_38 ?_
      refine gf_X10_67 hC dX10_value_39 ?_
      refine at_aload_n (j := 0) hC rfl rfl dX10_value_42 ?_
      refine gf_X10_51 hC dX10_value_43 ?_
      refine at_iload_n (j := 1) hC rfl rfl dX10_value_46 ?_
      refine at_bipush hC bi_100 dX10_value_47 ?_
      refine at_imul hC dX10_value_49 ?_
      refine at_bipush hC bi_100 dX10_value_50 ?_
      refine at_iadd hC dX10_value_52 ?_
      refine at_iconst hC ic_1 dX10_value_53 ?_
      refine at_isub hC dX10_value_54 ?_
      refine at_callVJ hC hR lk_X10_344 (c_Cn_promises r4s (((p0 * 100) + 100) - 1)) dX10_value_55 recX2 rfl rfl ⟨by decide, by decide⟩ (Nat.le_of_ble_eq_true rfl) ⟨Nat.le_refl 0, Nat.le_refl 0⟩ (fun r5 r5s _ => ?_)
      refine at_ladd hC dX10_value_58 ?_
      exact at_lret (F := eqA ad) (ra := rJ) hC dX10_value_59 rfl (Nat.le_refl 0) (Nat.le_refl 0) rfl
    · refine at_ldc2 hC kl_X10_274 dX10_value_18 ?_
      exact at_lret (F := eqA ad) (ra := rJ) hC dX10_value_21 rfl (Nat.le_refl 0) (Nat.le_refl 0) rfl
theorem dX10_row_0 : decode cX10_row 0 = .ok (.aload_n 0, 1) := by decide +kernel
theorem dX10_row_1 : decode cX10_row 1 = .ok (.getfield 58, 3) := by decide +kernel
theorem dX10_row_4 : decode cX10_row 4 = .ok (.getfield 348, 3) := by decide +kernel
theorem dX10_row_7 : decode cX10_row 7 = .ok (.iconst 4, 1) := by decide +kernel
theorem dX10_row_8 : decode cX10_row 8 = .ok (.if_icmp .lt 6, 3) := by decide +kernel
theorem dX10_row_11 : decode cX10_row 11 = .ok (.bipush (-4), 2) := by decide +kernel
theorem dX10_row_13 : decode cX10_row 13 = .ok (.ireturn, 1) := by decide +kernel
theorem dX10_row_14 : decode cX10_row 14 = .ok (.aload_n 0, 1) := by decide +kernel
theorem dX10_row_15 : decode cX10_row 15 = .ok (.getfield 58, 3) := by decide +kernel
theorem dX10_row_18 : decode cX10_row 18 = .ok (.dup, 1) := by decide +kernel
theorem dX10_row_19 : decode cX10_row 19 = .ok (.getfield 348, 3) := by decide +kernel
theorem dX10_row_22 : decode cX10_row 22 = .ok (.iconst 1, 1) := by decide +kernel
theorem dX10_row_23 : decode cX10_row 23 = .ok (.iadd, 1) := by decide +kernel
theorem dX10_row_24 : decode cX10_row 24 = .ok (.putfield 348, 3) := by decide +kernel
theorem dX10_row_27 : decode cX10_row 27 = .ok (.aload_n 0, 1) := by decide +kernel
theorem dX10_row_28 : decode cX10_row 28 = .ok (.getfield 58, 3) := by decide +kernel
theorem dX10_row_31 : decode cX10_row 31 = .ok (.getfield 348, 3) := by decide +kernel
theorem dX10_row_34 : decode cX10_row 34 = .ok (.iconst 1, 1) := by decide +kernel
theorem dX10_row_35 : decode cX10_row 35 = .ok (.isub, 1) := by decide +kernel
theorem dX10_row_36 : decode cX10_row 36 = .ok (.ireturn, 1) := by decide +kernel
set_option maxRecDepth 100000 in
theorem c_W_row (τ : XS) : Ct z (wX z σ) rI eqA yX10_row cX10_row 1 (some .int) 1 0 0 [.ref 36] τ (W_row τ) := by
  refine Ct.of (by decide) (Nat.le_of_ble_eq_true rfl) (fun ad x hC hR _ => ?_)
  show AT z x 1 (wX z σ) rI (eqA ad) 0 0 0 0 ad 0 [(0, .ref 36)] [] τ (W_row τ)
  unfold W_row
  refine at_aload_n (j := 0) hC rfl rfl dX10_row_0 ?_
  refine gf_X10_58 hC dX10_row_1 ?_
  refine gf_X10_348 hC dX10_row_4 ?_
  refine at_iconst hC ic_4 dX10_row_7 ?_
  refine at_icmp_lt (tgt := 14) hC dX10_row_8 rfl (fun _ => ?_) (fun _ => ?_)
  · refine at_aload_n (j := 0) hC rfl rfl dX10_row_14 ?_
    refine gf_X10_58 hC dX10_row_15 ?_
    refine at_dup hC rfl dX10_row_18 ?_
    refine gf_X10_348 hC dX10_row_19 ?_
    refine at_iconst hC ic_1 dX10_row_22 ?_
    refine at_iadd hC dX10_row_23 ?_
    refine pf_X10_348 hC dX10_row_24 ?_
    refine at_aload_n (j := 0) hC rfl rfl dX10_row_27 ?_
    refine gf_X10_58 hC dX10_row_28 ?_
    refine gf_X10_348 hC dX10_row_31 ?_
    refine at_iconst hC ic_1 dX10_row_34 ?_
    refine at_isub hC dX10_row_35 ?_
    exact at_iret (F := eqA ad) (ra := rI) hC dX10_row_36 rfl (Nat.le_refl 0) (Nat.le_refl 0) rfl
  · refine at_bipush hC bi_m4 dX10_row_11 ?_
    exact at_iret (F := eqA ad) (ra := rI) hC dX10_row_13 rfl (Nat.le_refl 0) (Nat.le_refl 0) rfl
theorem dX10_rows_0 : decode cX10_rows 0 = .ok (.iload_n 1, 1) := by decide +kernel
theorem dX10_rows_1 : decode cX10_rows 1 = .ok (.ifCond .lt 25, 3) := by decide +kernel
theorem dX10_rows_4 : decode cX10_rows 4 = .ok (.iload_n 1, 1) := by decide +kernel
theorem dX10_rows_5 : decode cX10_rows 5 = .ok (.aload_n 0, 1) := by decide +kernel
theorem dX10_rows_6 : decode cX10_rows 6 = .ok (.getfield 58, 3) := by decide +kernel
theorem dX10_rows_9 : decode cX10_rows 9 = .ok (.getfield 348, 3) := by decide +kernel
theorem dX10_rows_12 : decode cX10_rows 12 = .ok (.if_icmp .ge 14, 3) := by decide +kernel
theorem dX10_rows_15 : decode cX10_rows 15 = .ok (.aload_n 0, 1) := by decide +kernel
theorem dX10_rows_16 : decode cX10_rows 16 = .ok (.getfield 14, 3) := by decide +kernel
theorem dX10_rows_19 : decode cX10_rows 19 = .ok (.iload_n 2, 1) := by decide +kernel
theorem dX10_rows_20 : decode cX10_rows 20 = .ok (.invokevirtual 107, 3) := by decide +kernel
theorem dX10_rows_23 : decode cX10_rows 23 = .ok (.ifCond .ne 5, 3) := by decide +kernel
theorem dX10_rows_26 : decode cX10_rows 26 = .ok (.iconst (-1), 1) := by decide +kernel
theorem dX10_rows_27 : decode cX10_rows 27 = .ok (.ireturn, 1) := by decide +kernel
theorem dX10_rows_28 : decode cX10_rows 28 = .ok (.iload_n 3, 1) := by decide +kernel
theorem dX10_rows_29 : decode cX10_rows 29 = .ok (.invokestatic 271, 3) := by decide +kernel
theorem dX10_rows_32 : decode cX10_rows 32 = .ok (.ifCond .ne 6, 3) := by decide +kernel
theorem dX10_rows_35 : decode cX10_rows 35 = .ok (.bipush (-2), 2) := by decide +kernel
theorem dX10_rows_37 : decode cX10_rows 37 = .ok (.ireturn, 1) := by decide +kernel
theorem dX10_rows_38 : decode cX10_rows 38 = .ok (.aload_n 0, 1) := by decide +kernel
theorem dX10_rows_39 : decode cX10_rows 39 = .ok (.getfield 58, 3) := by decide +kernel
theorem dX10_rows_42 : decode cX10_rows 42 = .ok (.getfield 351, 3) := by decide +kernel
theorem dX10_rows_45 : decode cX10_rows 45 = .ok (.iload_n 1, 1) := by decide +kernel
theorem dX10_rows_46 : decode cX10_rows 46 = .ok (.iaload, 1) := by decide +kernel
theorem dX10_rows_47 : decode cX10_rows 47 = .ok (.bipush 8, 2) := by decide +kernel
theorem dX10_rows_49 : decode cX10_rows 49 = .ok (.if_icmp .lt 6, 3) := by decide +kernel
theorem dX10_rows_52 : decode cX10_rows 52 = .ok (.bipush (-4), 2) := by decide +kernel
theorem dX10_rows_54 : decode cX10_rows 54 = .ok (.ireturn, 1) := by decide +kernel
theorem dX10_rows_55 : decode cX10_rows 55 = .ok (.aload_n 0, 1) := by decide +kernel
theorem dX10_rows_56 : decode cX10_rows 56 = .ok (.getfield 58, 3) := by decide +kernel
theorem dX10_rows_59 : decode cX10_rows 59 = .ok (.iload_n 1, 1) := by decide +kernel
theorem dX10_rows_60 : decode cX10_rows 60 = .ok (.iload_n 2, 1) := by decide +kernel
theorem dX10_rows_61 : decode cX10_rows 61 = .ok (.iload_n 3, 1) := by decide +kernel
theorem dX10_rows_62 : decode cX10_rows 62 = .ok (.invokevirtual 352, 3) := by decide +kernel
theorem dX10_rows_65 : decode cX10_rows 65 = .ok (.ireturn, 1) := by decide +kernel
set_option maxRecDepth 100000 in
theorem c_W_rows (τ : XS) (p0 : Int32) (p1 : Int32) (p2 : Int32) : Ct z (wX z σ) rI eqA yX10_rows cX10_rows 4 (some .int) 2 0 0 [.ref 36, .int p0, .int p1, .int p2] τ (W_rows τ p0 p1 p2) := by
  refine Ct.of (by decide) (Nat.le_of_ble_eq_true rfl) (fun ad x hC hR _ => ?_)
  show AT z x 4 (wX z σ) rI (eqA ad) 0 0 0 0 ad 0 [(0, .ref 36), (1, .int p0), (2, .int p1), (3, .int p2)] [] τ (W_rows τ p0 p1 p2)
  unfold W_rows
  refine at_iload_n (j := 1) hC rfl rfl dX10_rows_0 ?_
  refine at_if_lt (tgt := 26) hC dX10_rows_1 rfl (fun _ => ?_) (fun _ => ?_)
  · refine at_iconst hC ic_m1 dX10_rows_26 ?_
    exact at_iret (F := eqA ad) (ra := rI) hC dX10_rows_27 rfl (Nat.le_refl 0) (Nat.le_refl 0) rfl
  · refine at_iload_n (j := 1) hC rfl rfl dX10_rows_4 ?_
    refine at_aload_n (j := 0) hC rfl rfl dX10_rows_5 ?_
    refine gf_X10_58 hC dX10_rows_6 ?_
    refine gf_X10_348 hC dX10_rows_9 ?_
    refine at_icmp_ge (tgt := 26) hC dX10_rows_12 rfl (fun _ => ?_) (fun _ => ?_)
    · refine at_iconst hC ic_m1 dX10_rows_26 ?_
      exact at_iret (F := eqA ad) (ra := rI) hC dX10_rows_27 rfl (Nat.le_refl 0) (Nat.le_refl 0) rfl
    · refine at_aload_n (j := 0) hC rfl rfl dX10_rows_15 ?_
      refine gf_X10_14 hC dX10_rows_16 ?_
      refine at_iload_n (j := 2) hC rfl rfl dX10_rows_19 ?_
      refine at_callVpI hC hR lk_X10_107 (c_Bk_isPerson τ p1) dX10_rows_20 recX1 rfl rfl ⟨by decide, by decide⟩ (Nat.le_of_ble_eq_true rfl) ⟨Nat.le_refl 0, Nat.le_refl 0⟩ (fun r1 _ => ?_)
      refine at_if_ne (tgt := 28) hC dX10_rows_23 rfl (fun _ => ?_) (fun _ => ?_)
      · refine at_iload_n (j := 3) hC rfl rfl dX10_rows_28 ?_
        refine at_callSpI hC hR lk_X10_271 (c_W_isYear τ p2) dX10_rows_29 rfl rfl ⟨by decide, by decide⟩ (Nat.le_of_ble_eq_true rfl) ⟨Nat.le_refl 0, Nat.le_refl 0⟩ (fun r2 _ => ?_)
        refine at_if_ne (tgt := 38) hC dX10_rows_32 rfl (fun _ => ?_) (fun _ => ?_)
        · refine at_aload_n (j := 0) hC rfl rfl dX10_rows_38 ?_
          refine gf_X10_58 hC dX10_rows_39 ?_
          refine gf_X10_351 hC dX10_rows_42 ?_
          refine at_iload_n (j := 1) hC rfl rfl dX10_rows_45 ?_
          refine at_iald hC 71 dX10_rows_46 cl_71 (fun v3 => ?_)
          refine at_bipush hC bi_8 dX10_rows_47 ?_
          refine at_icmp_lt (tgt := 55) hC dX10_rows_49 rfl (fun _ => ?_) (fun _ => ?_)
          · refine at_aload_n (j := 0) hC rfl rfl dX10_rows_55 ?_
            refine gf_X10_58 hC dX10_rows_56 ?_
            refine at_iload_n (j := 1) hC rfl rfl dX10_rows_59 ?_
            refine at_iload_n (j := 2) hC rfl rfl dX10_rows_60 ?_
            refine at_iload_n (j := 3) hC rfl rfl dX10_rows_61 ?_
            refine at_callVI hC hR lk_X10_352 (c_Tr_addDeath τ p0 p1 p2) dX10_rows_62 recX9 rfl rfl ⟨by decide, by decide⟩ (Nat.le_of_ble_eq_true rfl) ⟨Nat.le_refl 0, Nat.le_refl 0⟩ (fun r4 r4s _ => ?_)
            exact at_iret (F := eqA ad) (ra := rI) hC dX10_rows_65 rfl (Nat.le_refl 0) (Nat.le_refl 0) rfl
          · refine at_bipush hC bi_m4 dX10_rows_52 ?_
            exact at_iret (F := eqA ad) (ra := rI) hC dX10_rows_54 rfl (Nat.le_refl 0) (Nat.le_refl 0) rfl
        · refine at_bipush hC bi_m2 dX10_rows_35 ?_
          exact at_iret (F := eqA ad) (ra := rI) hC dX10_rows_37 rfl (Nat.le_refl 0) (Nat.le_refl 0) rfl
      · refine at_iconst hC ic_m1 dX10_rows_26 ?_
        exact at_iret (F := eqA ad) (ra := rI) hC dX10_rows_27 rfl (Nat.le_refl 0) (Nat.le_refl 0) rfl
theorem dX10_shortBy_0 : decode cX10_shortBy 0 = .ok (.iload_n 1, 1) := by decide +kernel
theorem dX10_shortBy_1 : decode cX10_shortBy 1 = .ok (.iconst (-1), 1) := by decide +kernel
theorem dX10_shortBy_2 : decode cX10_shortBy 2 = .ok (.if_icmp .lt 14, 3) := by decide +kernel
theorem dX10_shortBy_5 : decode cX10_shortBy 5 = .ok (.iload_n 1, 1) := by decide +kernel
theorem dX10_shortBy_6 : decode cX10_shortBy 6 = .ok (.aload_n 0, 1) := by decide +kernel
theorem dX10_shortBy_7 : decode cX10_shortBy 7 = .ok (.getfield 58, 3) := by decide +kernel
theorem dX10_shortBy_10 : decode cX10_shortBy 10 = .ok (.getfield 348, 3) := by decide +kernel
theorem dX10_shortBy_13 : decode cX10_shortBy 13 = .ok (.if_icmp .lt 5, 3) := by decide +kernel
theorem dX10_shortBy_16 : decode cX10_shortBy 16 = .ok (.iconst (-1), 1) := by decide +kernel
theorem dX10_shortBy_17 : decode cX10_shortBy 17 = .ok (.ireturn, 1) := by decide +kernel
theorem dX10_shortBy_18 : decode cX10_shortBy 18 = .ok (.iload_n 2, 1) := by decide +kernel
theorem dX10_shortBy_19 : decode cX10_shortBy 19 = .ok (.invokestatic 271, 3) := by decide +kernel
theorem dX10_shortBy_22 : decode cX10_shortBy 22 = .ok (.ifCond .eq 14, 3) := by decide +kernel
theorem dX10_shortBy_25 : decode cX10_shortBy 25 = .ok (.iload_n 3, 1) := by decide +kernel
theorem dX10_shortBy_26 : decode cX10_shortBy 26 = .ok (.iconst 1, 1) := by decide +kernel
theorem dX10_shortBy_27 : decode cX10_shortBy 27 = .ok (.if_icmp .lt 9, 3) := by decide +kernel
theorem dX10_shortBy_30 : decode cX10_shortBy 30 = .ok (.iload_n 3, 1) := by decide +kernel
theorem dX10_shortBy_31 : decode cX10_shortBy 31 = .ok (.bipush 20, 2) := by decide +kernel
theorem dX10_shortBy_33 : decode cX10_shortBy 33 = .ok (.if_icmp .le 6, 3) := by decide +kernel
theorem dX10_shortBy_36 : decode cX10_shortBy 36 = .ok (.bipush (-2), 2) := by decide +kernel
theorem dX10_shortBy_38 : decode cX10_shortBy 38 = .ok (.ireturn, 1) := by decide +kernel
theorem dX10_shortBy_39 : decode cX10_shortBy 39 = .ok (.aload_n 0, 1) := by decide +kernel
theorem dX10_shortBy_40 : decode cX10_shortBy 40 = .ok (.getfield 67, 3) := by decide +kernel
theorem dX10_shortBy_43 : decode cX10_shortBy 43 = .ok (.iconst (-1), 1) := by decide +kernel
theorem dX10_shortBy_44 : decode cX10_shortBy 44 = .ok (.invokevirtual 174, 3) := by decide +kernel
theorem dX10_shortBy_47 : decode cX10_shortBy 47 = .ok (.aload_n 0, 1) := by decide +kernel
theorem dX10_shortBy_48 : decode cX10_shortBy 48 = .ok (.getfield 67, 3) := by decide +kernel
theorem dX10_shortBy_51 : decode cX10_shortBy 51 = .ok (.iload_n 2, 1) := by decide +kernel
theorem dX10_shortBy_52 : decode cX10_shortBy 52 = .ok (.invokevirtual 306, 3) := by decide +kernel
theorem dX10_shortBy_55 : decode cX10_shortBy 55 = .ok (.lstore 4, 2) := by decide +kernel
theorem dX10_shortBy_57 : decode cX10_shortBy 57 = .ok (.aload_n 0, 1) := by decide +kernel
theorem dX10_shortBy_58 : decode cX10_shortBy 58 = .ok (.getfield 67, 3) := by decide +kernel
theorem dX10_shortBy_61 : decode cX10_shortBy 61 = .ok (.iload_n 1, 1) := by decide +kernel
theorem dX10_shortBy_62 : decode cX10_shortBy 62 = .ok (.invokevirtual 355, 3) := by decide +kernel
theorem dX10_shortBy_65 : decode cX10_shortBy 65 = .ok (.aload_n 0, 1) := by decide +kernel
theorem dX10_shortBy_66 : decode cX10_shortBy 66 = .ok (.getfield 67, 3) := by decide +kernel
theorem dX10_shortBy_69 : decode cX10_shortBy 69 = .ok (.lload 4, 2) := by decide +kernel
theorem dX10_shortBy_71 : decode cX10_shortBy 71 = .ok (.iload_n 2, 1) := by decide +kernel
theorem dX10_shortBy_72 : decode cX10_shortBy 72 = .ok (.iload_n 3, 1) := by decide +kernel
theorem dX10_shortBy_73 : decode cX10_shortBy 73 = .ok (.invokevirtual 358, 3) := by decide +kernel
theorem dX10_shortBy_76 : decode cX10_shortBy 76 = .ok (.ireturn, 1) := by decide +kernel
set_option maxRecDepth 100000 in
theorem c_W_shortBy (τ : XS) (p0 : Int32) (p1 : Int32) (p2 : Int32) : Ct z (wX z σ) rI eqA yX10_shortBy cX10_shortBy 6 (some .int) 11 0 0 [.ref 36, .int p0, .int p1, .int p2] τ (W_shortBy τ p0 p1 p2) := by
  refine Ct.of (by decide) (Nat.le_of_ble_eq_true rfl) (fun ad x hC hR _ => ?_)
  show AT z x 6 (wX z σ) rI (eqA ad) 0 0 0 0 ad 0 [(0, .ref 36), (1, .int p0), (2, .int p1), (3, .int p2)] [] τ (W_shortBy τ p0 p1 p2)
  unfold W_shortBy
  refine at_iload_n (j := 1) hC rfl rfl dX10_shortBy_0 ?_
  refine at_iconst hC ic_m1 dX10_shortBy_1 ?_
  refine at_icmp_lt (tgt := 16) hC dX10_shortBy_2 rfl (fun _ => ?_) (fun _ => ?_)
  · refine at_iconst hC ic_m1 dX10_shortBy_16 ?_
    exact at_iret (F := eqA ad) (ra := rI) hC dX10_shortBy_17 rfl (Nat.le_refl 0) (Nat.le_refl 0) rfl
  · refine at_iload_n (j := 1) hC rfl rfl dX10_shortBy_5 ?_
    refine at_aload_n (j := 0) hC rfl rfl dX10_shortBy_6 ?_
    refine gf_X10_58 hC dX10_shortBy_7 ?_
    refine gf_X10_348 hC dX10_shortBy_10 ?_
    refine at_icmp_lt (tgt := 18) hC dX10_shortBy_13 rfl (fun _ => ?_) (fun _ => ?_)
    · refine at_iload_n (j := 2) hC rfl rfl dX10_shortBy_18 ?_
      refine at_callSpI hC hR lk_X10_271 (c_W_isYear τ p1) dX10_shortBy_19 rfl rfl ⟨by decide, by decide⟩ (Nat.le_of_ble_eq_true rfl) ⟨Nat.le_refl 0, Nat.le_refl 0⟩ (fun r1 _ => ?_)
      refine at_if_eq (tgt := 36) hC dX10_shortBy_22 rfl (fun _ => ?_) (fun _ => ?_)
      · refine at_bipush hC bi_m2 dX10_shortBy_36 ?_
        exact at_iret (F := eqA ad) (ra := rI) hC dX10_shortBy_38 rfl (Nat.le_refl 0) (Nat.le_refl 0) rfl
      · refine at_iload_n (j := 3) hC rfl rfl dX10_shortBy_25 ?_
        refine at_iconst hC ic_1 dX10_shortBy_26 ?_
        refine at_icmp_lt (tgt := 36) hC dX10_shortBy_27 rfl (fun _ => ?_) (fun _ => ?_)
        · refine at_bipush hC bi_m2 dX10_shortBy_36 ?_
          exact at_iret (F := eqA ad) (ra := rI) hC dX10_shortBy_38 rfl (Nat.le_refl 0) (Nat.le_refl 0) rfl
        · refine at_iload_n (j := 3) hC rfl rfl dX10_shortBy_30 ?_
          refine at_bipush hC bi_20 dX10_shortBy_31 ?_
          refine at_icmp_le (tgt := 39) hC dX10_shortBy_33 rfl (fun _ => ?_) (fun _ => ?_)
          · refine at_aload_n (j := 0) hC rfl rfl dX10_shortBy_39 ?_
            refine gf_X10_67 hC dX10_shortBy_40 ?_
            refine at_iconst hC ic_m1 dX10_shortBy_43 ?_
            refine at_callVU hC hR lk_X10_174 (c_Cn_look τ (-1)) dX10_shortBy_44 recX2 rfl rfl ⟨by decide, by decide⟩ (Nat.le_of_ble_eq_true rfl) ⟨Nat.le_refl 0, Nat.le_refl 0⟩ (fun r2 r2s _ => ?_)
            refine at_aload_n (j := 0) hC rfl rfl dX10_shortBy_47 ?_
            refine gf_X10_67 hC dX10_shortBy_48 ?_
            refine at_iload_n (j := 2) hC rfl rfl dX10_shortBy_51 ?_
            refine at_callVJ hC hR lk_X10_306 (c_Cn_chestBehind r2s p1) dX10_shortBy_52 recX2 rfl rfl ⟨by decide, by decide⟩ (Nat.le_of_ble_eq_true rfl) ⟨Nat.le_refl 0, Nat.le_refl 0⟩ (fun r3 r3s _ => ?_)
            refine at_lstore (lv' := [(4, .long r3), (0, .ref 36), (1, .int p0), (2, .int p1), (3, .int p2)]) hC dX10_shortBy_55 (by decide) rfl ?_
            refine at_aload_n (j := 1) hC rfl rfl dX10_shortBy_57 ?_
            refine gf_X10_67 hC dX10_shortBy_58 ?_
            refine at_iload_n (j := 2) hC rfl rfl dX10_shortBy_61 ?_
            refine at_callVU hC hR lk_X10_355 (c_Cn_lookByRow r3s p0) dX10_shortBy_62 recX2 rfl rfl ⟨by decide, by decide⟩ (Nat.le_of_ble_eq_true rfl) ⟨Nat.le_refl 0, Nat.le_refl 0⟩ (fun r4 r4s _ => ?_)
            refine at_aload_n (j := 1) hC rfl rfl dX10_shortBy_65 ?_
            refine gf_X10_67 hC dX10_shortBy_66 ?_
            refine at_lload (j := 0) hC rfl dX10_shortBy_69 ?_
            refine at_iload_n (j := 3) hC rfl rfl dX10_shortBy_71 ?_
            refine at_iload_n (j := 4) hC rfl rfl dX10_shortBy_72 ?_
            refine at_callVI hC hR lk_X10_358 (c_Cn_shortYear r4s r3 p1 p2) dX10_shortBy_73 recX2 rfl rfl ⟨by decide, by decide⟩ (Nat.le_of_ble_eq_true rfl) ⟨Nat.le_refl 0, Nat.le_refl 0⟩ (fun r5 r5s _ => ?_)
            exact at_iret (F := eqA ad) (ra := rI) hC dX10_shortBy_76 rfl (Nat.le_refl 0) (Nat.le_refl 0) rfl
          · refine at_bipush hC bi_m2 dX10_shortBy_36 ?_
            exact at_iret (F := eqA ad) (ra := rI) hC dX10_shortBy_38 rfl (Nat.le_refl 0) (Nat.le_refl 0) rfl
    · refine at_iconst hC ic_m1 dX10_shortBy_16 ?_
      exact at_iret (F := eqA ad) (ra := rI) hC dX10_shortBy_17 rfl (Nat.le_refl 0) (Nat.le_refl 0) rfl
theorem dX10_step_0 : decode cX10_step 0 = .ok (.iload_n 1, 1) := by decide +kernel
theorem dX10_step_1 : decode cX10_step 1 = .ok (.ifCond .eq 15, 3) := by decide +kernel
theorem dX10_step_4 : decode cX10_step 4 = .ok (.iload_n 1, 1) := by decide +kernel
theorem dX10_step_5 : decode cX10_step 5 = .ok (.iconst 1, 1) := by decide +kernel
theorem dX10_step_6 : decode cX10_step 6 = .ok (.if_icmp .eq 10, 3) := by decide +kernel
theorem dX10_step_9 : decode cX10_step 9 = .ok (.iload_n 1, 1) := by decide +kernel
theorem dX10_step_10 : decode cX10_step 10 = .ok (.iconst 3, 1) := by decide +kernel
theorem dX10_step_11 : decode cX10_step 11 = .ok (.if_icmp .eq 5, 3) := by decide +kernel
theorem dX10_step_14 : decode cX10_step 14 = .ok (.iconst (-1), 1) := by decide +kernel
theorem dX10_step_15 : decode cX10_step 15 = .ok (.ireturn, 1) := by decide +kernel
theorem dX10_step_16 : decode cX10_step 16 = .ok (.iload_n 2, 1) := by decide +kernel
theorem dX10_step_17 : decode cX10_step 17 = .ok (.ifCond .lt 10, 3) := by decide +kernel
theorem dX10_step_20 : decode cX10_step 20 = .ok (.iload_n 2, 1) := by decide +kernel
theorem dX10_step_21 : decode cX10_step 21 = .ok (.sipush 300, 3) := by decide +kernel
theorem dX10_step_24 : decode cX10_step 24 = .ok (.if_icmp .le 6, 3) := by decide +kernel
theorem dX10_step_27 : decode cX10_step 27 = .ok (.bipush (-2), 2) := by decide +kernel
theorem dX10_step_29 : decode cX10_step 29 = .ok (.ireturn, 1) := by decide +kernel
theorem dX10_step_30 : decode cX10_step 30 = .ok (.aload_n 0, 1) := by decide +kernel
theorem dX10_step_31 : decode cX10_step 31 = .ok (.getfield 58, 3) := by decide +kernel
theorem dX10_step_34 : decode cX10_step 34 = .ok (.getfield 362, 3) := by decide +kernel
theorem dX10_step_37 : decode cX10_step 37 = .ok (.iconst 4, 1) := by decide +kernel
theorem dX10_step_38 : decode cX10_step 38 = .ok (.if_icmp .lt 6, 3) := by decide +kernel
theorem dX10_step_41 : decode cX10_step 41 = .ok (.bipush (-4), 2) := by decide +kernel
theorem dX10_step_43 : decode cX10_step 43 = .ok (.ireturn, 1) := by decide +kernel
theorem dX10_step_44 : decode cX10_step 44 = .ok (.aload_n 0, 1) := by decide +kernel
theorem dX10_step_45 : decode cX10_step 45 = .ok (.getfield 58, 3) := by decide +kernel
theorem dX10_step_48 : decode cX10_step 48 = .ok (.iload_n 1, 1) := by decide +kernel
theorem dX10_step_49 : decode cX10_step 49 = .ok (.iload_n 2, 1) := by decide +kernel
theorem dX10_step_50 : decode cX10_step 50 = .ok (.invokevirtual 365, 3) := by decide +kernel
theorem dX10_step_53 : decode cX10_step 53 = .ok (.ireturn, 1) := by decide +kernel
set_option maxRecDepth 100000 in
theorem t_W_step_J16 (hC : CX z ad x cX10_step RX10 3 (some .int)) (hR : x.2.2.1 = rmk 2 0 0) (τ : XS) (a1 : Int32) (a2 : Int32) : AT z x 3 (wX z σ) rI (eqA ad) 0 0 0 0 ad 16 [(0, .ref 36), (1, .int a1), (2, .int a2)] [] τ (W_step_J16 τ a1 a2) := by
  unfold W_step_J16
  refine at_iload_n (j := 2) hC rfl rfl dX10_step_16 ?_
  refine at_if_lt (tgt := 27) hC dX10_step_17 rfl (fun _ => ?_) (fun _ => ?_)
  · refine at_bipush hC bi_m2 dX10_step_27 ?_
    exact at_iret (F := eqA ad) (ra := rI) hC dX10_step_29 rfl (Nat.le_refl 0) (Nat.le_refl 0) rfl
  · refine at_iload_n (j := 2) hC rfl rfl dX10_step_20 ?_
    refine at_sipush hC si_300 dX10_step_21 ?_
    refine at_icmp_le (tgt := 30) hC dX10_step_24 rfl (fun _ => ?_) (fun _ => ?_)
    · refine at_aload_n (j := 0) hC rfl rfl dX10_step_30 ?_
      refine gf_X10_58 hC dX10_step_31 ?_
      refine gf_X10_362 hC dX10_step_34 ?_
      refine at_iconst hC ic_4 dX10_step_37 ?_
      refine at_icmp_lt (tgt := 44) hC dX10_step_38 rfl (fun _ => ?_) (fun _ => ?_)
      · refine at_aload_n (j := 0) hC rfl rfl dX10_step_44 ?_
        refine gf_X10_58 hC dX10_step_45 ?_
        refine at_iload_n (j := 1) hC rfl rfl dX10_step_48 ?_
        refine at_iload_n (j := 2) hC rfl rfl dX10_step_49 ?_
        refine at_callVI hC hR lk_X10_365 (c_Tr_addStep τ a1 a2) dX10_step_50 recX9 rfl rfl ⟨by decide, by decide⟩ (Nat.le_of_ble_eq_true rfl) ⟨Nat.le_refl 0, Nat.le_refl 0⟩ (fun r1 r1s _ => ?_)
        exact at_iret (F := eqA ad) (ra := rI) hC dX10_step_53 rfl (Nat.le_refl 0) (Nat.le_refl 0) rfl
      · refine at_bipush hC bi_m4 dX10_step_41 ?_
        exact at_iret (F := eqA ad) (ra := rI) hC dX10_step_43 rfl (Nat.le_refl 0) (Nat.le_refl 0) rfl
    · refine at_bipush hC bi_m2 dX10_step_27 ?_
      exact at_iret (F := eqA ad) (ra := rI) hC dX10_step_29 rfl (Nat.le_refl 0) (Nat.le_refl 0) rfl
set_option maxRecDepth 100000 in
theorem c_W_step (τ : XS) (p0 : Int32) (p1 : Int32) : Ct z (wX z σ) rI eqA yX10_step cX10_step 3 (some .int) 2 0 0 [.ref 36, .int p0, .int p1] τ (W_step τ p0 p1) := by
  refine Ct.of (by decide) (Nat.le_of_ble_eq_true rfl) (fun ad x hC hR _ => ?_)
  show AT z x 3 (wX z σ) rI (eqA ad) 0 0 0 0 ad 0 [(0, .ref 36), (1, .int p0), (2, .int p1)] [] τ (W_step τ p0 p1)
  unfold W_step
  refine at_iload_n (j := 1) hC rfl rfl dX10_step_0 ?_
  refine at_if_eq (tgt := 16) hC dX10_step_1 rfl (fun _ => ?_) (fun _ => ?_)
  · exact t_W_step_J16 hC hR τ p0 p1
  · refine at_iload_n (j := 1) hC rfl rfl dX10_step_4 ?_
    refine at_iconst hC ic_1 dX10_step_5 ?_
    refine at_icmp_eq (tgt := 16) hC dX10_step_6 rfl (fun _ => ?_) (fun _ => ?_)
    · exact t_W_step_J16 hC hR τ p0 p1
    · refine at_iload_n (j := 1) hC rfl rfl dX10_step_9 ?_
      refine at_iconst hC ic_3 dX10_step_10 ?_
      refine at_icmp_eq (tgt := 16) hC dX10_step_11 rfl (fun _ => ?_) (fun _ => ?_)
      · exact t_W_step_J16 hC hR τ p0 p1
      · refine at_iconst hC ic_m1 dX10_step_14 ?_
        exact at_iret (F := eqA ad) (ra := rI) hC dX10_step_15 rfl (Nat.le_refl 0) (Nat.le_refl 0) rfl
theorem dX10_plan_0 : decode cX10_plan 0 = .ok (.iload_n 3, 1) := by decide +kernel
theorem dX10_plan_1 : decode cX10_plan 1 = .ok (.ifCond .lt 8, 3) := by decide +kernel
theorem dX10_plan_4 : decode cX10_plan 4 = .ok (.iload_n 3, 1) := by decide +kernel
theorem dX10_plan_5 : decode cX10_plan 5 = .ok (.iconst 1, 1) := by decide +kernel
theorem dX10_plan_6 : decode cX10_plan 6 = .ok (.if_icmp .le 5, 3) := by decide +kernel
theorem dX10_plan_9 : decode cX10_plan 9 = .ok (.iconst (-1), 1) := by decide +kernel
theorem dX10_plan_10 : decode cX10_plan 10 = .ok (.ireturn, 1) := by decide +kernel
theorem dX10_plan_11 : decode cX10_plan 11 = .ok (.iload_n 1, 1) := by decide +kernel
theorem dX10_plan_12 : decode cX10_plan 12 = .ok (.invokestatic 271, 3) := by decide +kernel
theorem dX10_plan_15 : decode cX10_plan 15 = .ok (.ifCond .eq 14, 3) := by decide +kernel
theorem dX10_plan_18 : decode cX10_plan 18 = .ok (.iload_n 2, 1) := by decide +kernel
theorem dX10_plan_19 : decode cX10_plan 19 = .ok (.iconst 1, 1) := by decide +kernel
theorem dX10_plan_20 : decode cX10_plan 20 = .ok (.if_icmp .lt 9, 3) := by decide +kernel
theorem dX10_plan_23 : decode cX10_plan 23 = .ok (.iload_n 2, 1) := by decide +kernel
theorem dX10_plan_24 : decode cX10_plan 24 = .ok (.bipush 20, 2) := by decide +kernel
theorem dX10_plan_26 : decode cX10_plan 26 = .ok (.if_icmp .le 6, 3) := by decide +kernel
theorem dX10_plan_29 : decode cX10_plan 29 = .ok (.bipush (-2), 2) := by decide +kernel
theorem dX10_plan_31 : decode cX10_plan 31 = .ok (.ireturn, 1) := by decide +kernel
theorem dX10_plan_32 : decode cX10_plan 32 = .ok (.aload_n 0, 1) := by decide +kernel
theorem dX10_plan_33 : decode cX10_plan 33 = .ok (.getfield 67, 3) := by decide +kernel
theorem dX10_plan_36 : decode cX10_plan 36 = .ok (.iconst (-1), 1) := by decide +kernel
theorem dX10_plan_37 : decode cX10_plan 37 = .ok (.invokevirtual 174, 3) := by decide +kernel
theorem dX10_plan_40 : decode cX10_plan 40 = .ok (.aload_n 0, 1) := by decide +kernel
theorem dX10_plan_41 : decode cX10_plan 41 = .ok (.getfield 67, 3) := by decide +kernel
theorem dX10_plan_44 : decode cX10_plan 44 = .ok (.iload_n 1, 1) := by decide +kernel
theorem dX10_plan_45 : decode cX10_plan 45 = .ok (.invokevirtual 306, 3) := by decide +kernel
theorem dX10_plan_48 : decode cX10_plan 48 = .ok (.lstore 4, 2) := by decide +kernel
theorem dX10_plan_50 : decode cX10_plan 50 = .ok (.aload_n 0, 1) := by decide +kernel
theorem dX10_plan_51 : decode cX10_plan 51 = .ok (.getfield 67, 3) := by decide +kernel
theorem dX10_plan_54 : decode cX10_plan 54 = .ok (.iload_n 1, 1) := by decide +kernel
theorem dX10_plan_55 : decode cX10_plan 55 = .ok (.bipush 100, 2) := by decide +kernel
theorem dX10_plan_57 : decode cX10_plan 57 = .ok (.imul, 1) := by decide +kernel
theorem dX10_plan_58 : decode cX10_plan 58 = .ok (.bipush 100, 2) := by decide +kernel
theorem dX10_plan_60 : decode cX10_plan 60 = .ok (.iadd, 1) := by decide +kernel
theorem dX10_plan_61 : decode cX10_plan 61 = .ok (.iconst 1, 1) := by decide +kernel
theorem dX10_plan_62 : decode cX10_plan 62 = .ok (.isub, 1) := by decide +kernel
theorem dX10_plan_63 : decode cX10_plan 63 = .ok (.invokevirtual 368, 3) := by decide +kernel
theorem dX10_plan_66 : decode cX10_plan 66 = .ok (.istore 6, 2) := by decide +kernel
theorem dX10_plan_68 : decode cX10_plan 68 = .ok (.bipush (-5), 2) := by decide +kernel
theorem dX10_plan_70 : decode cX10_plan 70 = .ok (.istore 7, 2) := by decide +kernel
theorem dX10_plan_72 : decode cX10_plan 72 = .ok (.iconst 0, 1) := by decide +kernel
theorem dX10_plan_73 : decode cX10_plan 73 = .ok (.istore 8, 2) := by decide +kernel
theorem dX10_plan_75 : decode cX10_plan 75 = .ok (.iload 8, 2) := by decide +kernel
theorem dX10_plan_77 : decode cX10_plan 77 = .ok (.iconst 1, 1) := by decide +kernel
theorem dX10_plan_78 : decode cX10_plan 78 = .ok (.aload_n 0, 1) := by decide +kernel
theorem dX10_plan_79 : decode cX10_plan 79 = .ok (.getfield 58, 3) := by decide +kernel
theorem dX10_plan_82 : decode cX10_plan 82 = .ok (.getfield 362, 3) := by decide +kernel
theorem dX10_plan_85 : decode cX10_plan 85 = .ok (.ishl, 1) := by decide +kernel
theorem dX10_plan_86 : decode cX10_plan 86 = .ok (.if_icmp .ge 122, 3) := by decide +kernel
theorem dX10_plan_89 : decode cX10_plan 89 = .ok (.aload_n 0, 1) := by decide +kernel
theorem dX10_plan_90 : decode cX10_plan 90 = .ok (.getfield 58, 3) := by decide +kernel
theorem dX10_plan_93 : decode cX10_plan 93 = .ok (.iload 8, 2) := by decide +kernel
theorem dX10_plan_95 : decode cX10_plan 95 = .ok (.invokevirtual 371, 3) := by decide +kernel
theorem dX10_plan_98 : decode cX10_plan 98 = .ok (.ifCond .eq 104, 3) := by decide +kernel
theorem dX10_plan_101 : decode cX10_plan 101 = .ok (.iload 7, 2) := by decide +kernel
theorem dX10_plan_103 : decode cX10_plan 103 = .ok (.ifCond .lt 22, 3) := by decide +kernel
theorem dX10_plan_106 : decode cX10_plan 106 = .ok (.aload_n 0, 1) := by decide +kernel
theorem dX10_plan_107 : decode cX10_plan 107 = .ok (.getfield 58, 3) := by decide +kernel
theorem dX10_plan_110 : decode cX10_plan 110 = .ok (.iload 8, 2) := by decide +kernel
theorem dX10_plan_112 : decode cX10_plan 112 = .ok (.iload 7, 2) := by decide +kernel
theorem dX10_plan_114 : decode cX10_plan 114 = .ok (.iload 6, 2) := by decide +kernel
theorem dX10_plan_116 : decode cX10_plan 116 = .ok (.invokevirtual 374, 3) := by decide +kernel
theorem dX10_plan_119 : decode cX10_plan 119 = .ok (.ifCond .ne 6, 3) := by decide +kernel
theorem dX10_plan_122 : decode cX10_plan 122 = .ok (.goto 80, 3) := by decide +kernel
theorem dX10_plan_125 : decode cX10_plan 125 = .ok (.aload_n 0, 1) := by decide +kernel
theorem dX10_plan_126 : decode cX10_plan 126 = .ok (.getfield 67, 3) := by decide +kernel
theorem dX10_plan_129 : decode cX10_plan 129 = .ok (.iload 8, 2) := by decide +kernel
theorem dX10_plan_131 : decode cX10_plan 131 = .ok (.putfield 378, 3) := by decide +kernel
theorem dX10_plan_134 : decode cX10_plan 134 = .ok (.iconst 1, 1) := by decide +kernel
theorem dX10_plan_135 : decode cX10_plan 135 = .ok (.istore 9, 2) := by decide +kernel
theorem dX10_plan_137 : decode cX10_plan 137 = .ok (.iconst 0, 1) := by decide +kernel
theorem dX10_plan_138 : decode cX10_plan 138 = .ok (.istore 10, 2) := by decide +kernel
theorem dX10_plan_140 : decode cX10_plan 140 = .ok (.iload 9, 2) := by decide +kernel
theorem dX10_plan_142 : decode cX10_plan 142 = .ok (.ifCond .eq 51, 3) := by decide +kernel
theorem dX10_plan_145 : decode cX10_plan 145 = .ok (.iload 10, 2) := by decide +kernel
theorem dX10_plan_147 : decode cX10_plan 147 = .ok (.aload_n 0, 1) := by decide +kernel
theorem dX10_plan_148 : decode cX10_plan 148 = .ok (.getfield 58, 3) := by decide +kernel
theorem dX10_plan_151 : decode cX10_plan 151 = .ok (.getfield 348, 3) := by decide +kernel
theorem dX10_plan_154 : decode cX10_plan 154 = .ok (.if_icmp .ge 39, 3) := by decide +kernel
theorem dX10_plan_157 : decode cX10_plan 157 = .ok (.aload_n 0, 1) := by decide +kernel
theorem dX10_plan_158 : decode cX10_plan 158 = .ok (.getfield 67, 3) := by decide +kernel
theorem dX10_plan_161 : decode cX10_plan 161 = .ok (.iload 10, 2) := by decide +kernel
theorem dX10_plan_163 : decode cX10_plan 163 = .ok (.invokevirtual 355, 3) := by decide +kernel
theorem dX10_plan_166 : decode cX10_plan 166 = .ok (.aload_n 0, 1) := by decide +kernel
theorem dX10_plan_167 : decode cX10_plan 167 = .ok (.getfield 67, 3) := by decide +kernel
theorem dX10_plan_170 : decode cX10_plan 170 = .ok (.lload 4, 2) := by decide +kernel
theorem dX10_plan_172 : decode cX10_plan 172 = .ok (.iload_n 1, 1) := by decide +kernel
theorem dX10_plan_173 : decode cX10_plan 173 = .ok (.iload_n 2, 1) := by decide +kernel
theorem dX10_plan_174 : decode cX10_plan 174 = .ok (.invokevirtual 358, 3) := by decide +kernel
theorem dX10_plan_177 : decode cX10_plan 177 = .ok (.ifCond .ge 7, 3) := by decide +kernel
theorem dX10_plan_180 : decode cX10_plan 180 = .ok (.iconst 1, 1) := by decide +kernel
theorem dX10_plan_181 : decode cX10_plan 181 = .ok (.goto 4, 3) := by decide +kernel
theorem dX10_plan_184 : decode cX10_plan 184 = .ok (.iconst 0, 1) := by decide +kernel
theorem dX10_plan_185 : decode cX10_plan 185 = .ok (.istore 9, 2) := by decide +kernel
theorem dX10_plan_187 : decode cX10_plan 187 = .ok (.iinc 10 1, 3) := by decide +kernel
theorem dX10_plan_190 : decode cX10_plan 190 = .ok (.goto (-50), 3) := by decide +kernel
theorem dX10_plan_193 : decode cX10_plan 193 = .ok (.iload 9, 2) := by decide +kernel
theorem dX10_plan_195 : decode cX10_plan 195 = .ok (.ifCond .eq 7, 3) := by decide +kernel
theorem dX10_plan_198 : decode cX10_plan 198 = .ok (.iload 8, 2) := by decide +kernel
theorem dX10_plan_200 : decode cX10_plan 200 = .ok (.istore 7, 2) := by decide +kernel
theorem dX10_plan_202 : decode cX10_plan 202 = .ok (.iinc 8 1, 3) := by decide +kernel
theorem dX10_plan_205 : decode cX10_plan 205 = .ok (.goto (-130), 3) := by decide +kernel
theorem dX10_plan_208 : decode cX10_plan 208 = .ok (.aload_n 0, 1) := by decide +kernel
theorem dX10_plan_209 : decode cX10_plan 209 = .ok (.getfield 67, 3) := by decide +kernel
theorem dX10_plan_212 : decode cX10_plan 212 = .ok (.iconst 0, 1) := by decide +kernel
theorem dX10_plan_213 : decode cX10_plan 213 = .ok (.putfield 378, 3) := by decide +kernel
theorem dX10_plan_216 : decode cX10_plan 216 = .ok (.iload 7, 2) := by decide +kernel
theorem dX10_plan_218 : decode cX10_plan 218 = .ok (.ifCond .lt 7, 3) := by decide +kernel
theorem dX10_plan_221 : decode cX10_plan 221 = .ok (.iload_n 3, 1) := by decide +kernel
theorem dX10_plan_222 : decode cX10_plan 222 = .ok (.ifCond .ne 6, 3) := by decide +kernel
theorem dX10_plan_225 : decode cX10_plan 225 = .ok (.iload 7, 2) := by decide +kernel
theorem dX10_plan_227 : decode cX10_plan 227 = .ok (.ireturn, 1) := by decide +kernel
theorem dX10_plan_228 : decode cX10_plan 228 = .ok (.iload 6, 2) := by decide +kernel
theorem dX10_plan_230 : decode cX10_plan 230 = .ok (.ifCond .ge 8, 3) := by decide +kernel
theorem dX10_plan_233 : decode cX10_plan 233 = .ok (.bipush (-5), 2) := by decide +kernel
theorem dX10_plan_235 : decode cX10_plan 235 = .ok (.goto 15, 3) := by decide +kernel
theorem dX10_plan_238 : decode cX10_plan 238 = .ok (.aload_n 0, 1) := by decide +kernel
theorem dX10_plan_239 : decode cX10_plan 239 = .ok (.getfield 58, 3) := by decide +kernel
theorem dX10_plan_242 : decode cX10_plan 242 = .ok (.iload 7, 2) := by decide +kernel
theorem dX10_plan_244 : decode cX10_plan 244 = .ok (.iconst 0, 1) := by decide +kernel
theorem dX10_plan_245 : decode cX10_plan 245 = .ok (.iload 6, 2) := by decide +kernel
theorem dX10_plan_247 : decode cX10_plan 247 = .ok (.invokevirtual 381, 3) := by decide +kernel
theorem dX10_plan_250 : decode cX10_plan 250 = .ok (.ireturn, 1) := by decide +kernel
set_option maxRecDepth 100000 in
theorem t_W_plan_J202 (hC : CX z ad x cX10_plan RX10 11 (some .int)) (hR : x.2.2.1 = rmk 11 0 0) (k_75 : XS → Int32 → Int32 → Int32 → Int64 → Int32 → Int32 → Int32 → Option (Int32 × XS)) (hk_75 : ∀ (τ : XS) (a1 : Int32) (a2 : Int32) (a3 : Int32) (a4 : Int64) (a6 : Int32) (a7 : Int32) (a8 : Int32), AT z x 11 (wX z σ) rI (eqA ad) 0 0 0 0 ad 75 [(0, .ref 36), (1, .int a1), (2, .int a2), (3, .int a3), (4, .long a4), (6, .int a6), (7, .int a7), (8, .int a8)] [] τ (k_75 τ a1 a2 a3 a4 a6 a7 a8)) (τ : XS) (a1 : Int32) (a2 : Int32) (a3 : Int32) (a4 : Int64) (a6 : Int32) (a7 : Int32) (a8 : Int32) : AT z x 11 (wX z σ) rI (eqA ad) 0 0 0 0 ad 202 [(0, .ref 36), (1, .int a1), (2, .int a2), (3, .int a3), (4, .long a4), (6, .int a6), (7, .int a7), (8, .int a8)] [] τ (W_plan_J202 k_75 τ a1 a2 a3 a4 a6 a7 a8) := by
  unfold W_plan_J202
  refine at_iinc (j := 7) (v := a8 + 1) (lv' := [(8, .int (a8 + 1)), (0, .ref 36), (1, .int a1), (2, .int a2), (3, .int a3), (4, .long a4), (6, .int a6), (7, .int a7)]) hC dX10_plan_202 rfl rfl (by decide) rfl ?_
  refine at_goto (tgt := 75) hC dX10_plan_205 rfl ?_
  refine at_drop (lv' := [(0, .ref 36), (1, .int a1), (2, .int a2), (3, .int a3), (4, .long a4), (6, .int a6), (7, .int a7), (8, .int (a8 + 1))]) [1, 2, 3, 4, 5, 6, 7, 0] rfl ?_
  exact hk_75 τ a1 a2 a3 a4 a6 a7 (a8 + 1)
set_option maxRecDepth 100000 in
theorem t_W_plan_J193 (hC : CX z ad x cX10_plan RX10 11 (some .int)) (hR : x.2.2.1 = rmk 11 0 0) (k_75 : XS → Int32 → Int32 → Int32 → Int64 → Int32 → Int32 → Int32 → Option (Int32 × XS)) (hk_75 : ∀ (τ : XS) (a1 : Int32) (a2 : Int32) (a3 : Int32) (a4 : Int64) (a6 : Int32) (a7 : Int32) (a8 : Int32), AT z x 11 (wX z σ) rI (eqA ad) 0 0 0 0 ad 75 [(0, .ref 36), (1, .int a1), (2, .int a2), (3, .int a3), (4, .long a4), (6, .int a6), (7, .int a7), (8, .int a8)] [] τ (k_75 τ a1 a2 a3 a4 a6 a7 a8)) (τ : XS) (a1 : Int32) (a2 : Int32) (a3 : Int32) (a4 : Int64) (a6 : Int32) (a7 : Int32) (a8 : Int32) (a9 : Int32) : AT z x 11 (wX z σ) rI (eqA ad) 0 0 0 0 ad 193 [(0, .ref 36), (1, .int a1), (2, .int a2), (3, .int a3), (4, .long a4), (6, .int a6), (7, .int a7), (8, .int a8), (9, .int a9)] [] τ (W_plan_J193 k_75 τ a1 a2 a3 a4 a6 a7 a8 a9) := by
  unfold W_plan_J193
  refine at_iload (j := 8) hC rfl dX10_plan_193 ?_
  refine at_if_eq (tgt := 202) hC dX10_plan_195 rfl (fun _ => ?_) (fun _ => ?_)
  · refine at_drop (lv' := [(0, .ref 36), (1, .int a1), (2, .int a2), (3, .int a3), (4, .long a4), (6, .int a6), (7, .int a7), (8, .int a8)]) [0, 1, 2, 3, 4, 5, 6, 7] rfl ?_
    exact t_W_plan_J202 hC hR k_75 hk_75 τ a1 a2 a3 a4 a6 a7 a8
  · refine at_iload (j := 7) hC rfl dX10_plan_198 ?_
    refine at_istore (lv' := [(7, .int a8), (0, .ref 36), (1, .int a1), (2, .int a2), (3, .int a3), (4, .long a4), (6, .int a6), (8, .int a8), (9, .int a9)]) hC dX10_plan_200 (by decide) rfl ?_
    refine at_drop (lv' := [(0, .ref 36), (1, .int a1), (2, .int a2), (3, .int a3), (4, .long a4), (6, .int a6), (7, .int a8), (8, .int a8)]) [1, 2, 3, 4, 5, 6, 0, 7] rfl ?_
    exact t_W_plan_J202 hC hR k_75 hk_75 τ a1 a2 a3 a4 a6 a8 a8
set_option maxRecDepth 100000 in
theorem t_W_plan_J185 (hC : CX z ad x cX10_plan RX10 11 (some .int)) (hR : x.2.2.1 = rmk 11 0 0) (k_75 : XS → Int32 → Int32 → Int32 → Int64 → Int32 → Int32 → Int32 → Option (Int32 × XS)) (hk_75 : ∀ (τ : XS) (a1 : Int32) (a2 : Int32) (a3 : Int32) (a4 : Int64) (a6 : Int32) (a7 : Int32) (a8 : Int32), AT z x 11 (wX z σ) rI (eqA ad) 0 0 0 0 ad 75 [(0, .ref 36), (1, .int a1), (2, .int a2), (3, .int a3), (4, .long a4), (6, .int a6), (7, .int a7), (8, .int a8)] [] τ (k_75 τ a1 a2 a3 a4 a6 a7 a8)) (k_140 : XS → Int32 → Int32 → Int32 → Int64 → Int32 → Int32 → Int32 → Int32 → Int32 → Option (Int32 × XS)) (hk_140 : ∀ (τ : XS) (a1 : Int32) (a2 : Int32) (a3 : Int32) (a4 : Int64) (a6 : Int32) (a7 : Int32) (a8 : Int32) (a9 : Int32) (a10 : Int32), AT z x 11 (wX z σ) rI (eqA ad) 0 0 0 0 ad 140 [(0, .ref 36), (1, .int a1), (2, .int a2), (3, .int a3), (4, .long a4), (6, .int a6), (7, .int a7), (8, .int a8), (9, .int a9), (10, .int a10)] [] τ (k_140 τ a1 a2 a3 a4 a6 a7 a8 a9 a10)) (τ : XS) (a1 : Int32) (a2 : Int32) (a3 : Int32) (a4 : Int64) (a6 : Int32) (a7 : Int32) (a8 : Int32) (a10 : Int32) (s0 : Int32) : AT z x 11 (wX z σ) rI (eqA ad) 0 0 0 0 ad 185 [(0, .ref 36), (1, .int a1), (2, .int a2), (3, .int a3), (4, .long a4), (6, .int a6), (7, .int a7), (8, .int a8), (10, .int a10)] [.int s0] τ (W_plan_J185 k_75 k_140 τ a1 a2 a3 a4 a6 a7 a8 a10 s0) := by
  unfold W_plan_J185
  refine at_istore (lv' := [(9, .int s0), (0, .ref 36), (1, .int a1), (2, .int a2), (3, .int a3), (4, .long a4), (6, .int a6), (7, .int a7), (8, .int a8), (10, .int a10)]) hC dX10_plan_185 (by decide) rfl ?_
  refine at_iinc (j := 9) (v := a10 + 1) (lv' := [(10, .int (a10 + 1)), (9, .int s0), (0, .ref 36), (1, .int a1), (2, .int a2), (3, .int a3), (4, .long a4), (6, .int a6), (7, .int a7), (8, .int a8)]) hC dX10_plan_187 rfl rfl (by decide) rfl ?_
  refine at_goto (tgt := 140) hC dX10_plan_190 rfl ?_
  refine at_drop (lv' := [(0, .ref 36), (1, .int a1), (2, .int a2), (3, .int a3), (4, .long a4), (6, .int a6), (7, .int a7), (8, .int a8), (9, .int s0), (10, .int (a10 + 1))]) [2, 3, 4, 5, 6, 7, 8, 9, 1, 0] rfl ?_
  exact hk_140 τ a1 a2 a3 a4 a6 a7 a8 s0 (a10 + 1)
set_option maxRecDepth 100000 in
theorem t_W_plan_L140 (hC : CX z ad x cX10_plan RX10 11 (some .int)) (hR : x.2.2.1 = rmk 11 0 0) (k_75 : XS → Int32 → Int32 → Int32 → Int64 → Int32 → Int32 → Int32 → Option (Int32 × XS)) (hk_75 : ∀ (τ : XS) (a1 : Int32) (a2 : Int32) (a3 : Int32) (a4 : Int64) (a6 : Int32) (a7 : Int32) (a8 : Int32), AT z x 11 (wX z σ) rI (eqA ad) 0 0 0 0 ad 75 [(0, .ref 36), (1, .int a1), (2, .int a2), (3, .int a3), (4, .long a4), (6, .int a6), (7, .int a7), (8, .int a8)] [] τ (k_75 τ a1 a2 a3 a4 a6 a7 a8)) (n : Nat) (τ : XS) (a1 : Int32) (a2 : Int32) (a3 : Int32) (a4 : Int64) (a6 : Int32) (a7 : Int32) (a8 : Int32) (a9 : Int32) (a10 : Int32) : AT z x 11 (wX z σ) rI (eqA ad) 0 0 0 0 ad 140 [(0, .ref 36), (1, .int a1), (2, .int a2), (3, .int a3), (4, .long a4), (6, .int a6), (7, .int a7), (8, .int a8), (9, .int a9), (10, .int a10)] [] τ (W_plan_L140 k_75 n τ a1 a2 a3 a4 a6 a7 a8 a9 a10) := by
  revert τ a1 a2 a3 a4 a6 a7 a8 a9 a10
  show ∀ (τ : XS) (a1 : Int32) (a2 : Int32) (a3 : Int32) (a4 : Int64) (a6 : Int32) (a7 : Int32) (a8 : Int32) (a9 : Int32) (a10 : Int32), AT z x 11 (wX z σ) rI (eqA ad) 0 0 0 0 ad 140 [(0, .ref 36), (1, .int a1), (2, .int a2), (3, .int a3), (4, .long a4), (6, .int a6), (7, .int a7), (8, .int a8), (9, .int a9), (10, .int a10)] [] τ (W_plan_L140_r k_75 n τ a1 a2 a3 a4 a6 a7 a8 a9 a10)
  induction n with
  | zero => intro τ a1 a2 a3 a4 a6 a7 a8 a9 a10; exact at_none
  | succ n hk_140 =>
    intro τ a1 a2 a3 a4 a6 a7 a8 a9 a10
    unfold W_plan_L140_r
    refine at_iload (j := 8) hC rfl dX10_plan_140 ?_
    refine at_if_eq (tgt := 193) hC dX10_plan_142 rfl (fun _ => ?_) (fun _ => ?_)
    · refine at_drop (lv' := [(0, .ref 36), (1, .int a1), (2, .int a2), (3, .int a3), (4, .long a4), (6, .int a6), (7, .int a7), (8, .int a8), (9, .int a9)]) [0, 1, 2, 3, 4, 5, 6, 7, 8] rfl ?_
      exact t_W_plan_J193 hC hR k_75 hk_75 τ a1 a2 a3 a4 a6 a7 a8 a9
    · refine at_iload (j := 9) hC rfl dX10_plan_145 ?_
      refine at_aload_n (j := 0) hC rfl rfl dX10_plan_147 ?_
      refine gf_X10_58 hC dX10_plan_148 ?_
      refine gf_X10_348 hC dX10_plan_151 ?_
      refine at_icmp_ge (tgt := 193) hC dX10_plan_154 rfl (fun _ => ?_) (fun _ => ?_)
      · refine at_drop (lv' := [(0, .ref 36), (1, .int a1), (2, .int a2), (3, .int a3), (4, .long a4), (6, .int a6), (7, .int a7), (8, .int a8), (9, .int a9)]) [0, 1, 2, 3, 4, 5, 6, 7, 8] rfl ?_
        exact t_W_plan_J193 hC hR k_75 hk_75 τ a1 a2 a3 a4 a6 a7 a8 a9
      · refine at_aload_n (j := 0) hC rfl rfl dX10_plan_157 ?_
        refine gf_X10_67 hC dX10_plan_158 ?_
        refine at_iload (j := 9) hC rfl dX10_plan_161 ?_
        refine at_callVU hC hR lk_X10_355 (c_Cn_lookByRow τ a10) dX10_plan_163 recX2 rfl rfl ⟨by decide, by decide⟩ (Nat.le_of_ble_eq_true rfl) ⟨Nat.le_refl 0, Nat.le_refl 0⟩ (fun r7 r7s _ => ?_)
        refine at_aload_n (j := 0) hC rfl rfl dX10_plan_166 ?_
        refine gf_X10_67 hC dX10_plan_167 ?_
        refine at_lload (j := 4) hC rfl dX10_plan_170 ?_
        refine at_iload_n (j := 1) hC rfl rfl dX10_plan_172 ?_
        refine at_iload_n (j := 2) hC rfl rfl dX10_plan_173 ?_
        refine at_callVI hC hR lk_X10_358 (c_Cn_shortYear r7s a4 a1 a2) dX10_plan_174 recX2 rfl rfl ⟨by decide, by decide⟩ (Nat.le_of_ble_eq_true rfl) ⟨Nat.le_refl 0, Nat.le_refl 0⟩ (fun r8 r8s _ => ?_)
        refine at_if_ge (tgt := 184) hC dX10_plan_177 rfl (fun _ => ?_) (fun _ => ?_)
        · refine at_iconst hC ic_0 dX10_plan_184 ?_
          refine at_drop (lv' := [(0, .ref 36), (1, .int a1), (2, .int a2), (3, .int a3), (4, .long a4), (6, .int a6), (7, .int a7), (8, .int a8), (10, .int a10)]) [0, 1, 2, 3, 4, 5, 6, 7, 9] rfl ?_
          exact t_W_plan_J185 hC hR k_75 hk_75 (W_plan_L140_r k_75 n) hk_140 r8s a1 a2 a3 a4 a6 a7 a8 a10 0
        · refine at_iconst hC ic_1 dX10_plan_180 ?_
          refine at_goto (tgt := 185) hC dX10_plan_181 rfl ?_
          refine at_drop (lv' := [(0, .ref 36), (1, .int a1), (2, .int a2), (3, .int a3), (4, .long a4), (6, .int a6), (7, .int a7), (8, .int a8), (10, .int a10)]) [0, 1, 2, 3, 4, 5, 6, 7, 9] rfl ?_
          exact t_W_plan_J185 hC hR k_75 hk_75 (W_plan_L140_r k_75 n) hk_140 r8s a1 a2 a3 a4 a6 a7 a8 a10 1
set_option maxRecDepth 100000 in
theorem t_W_plan_J125 (hC : CX z ad x cX10_plan RX10 11 (some .int)) (hR : x.2.2.1 = rmk 11 0 0) (k_75 : XS → Int32 → Int32 → Int32 → Int64 → Int32 → Int32 → Int32 → Option (Int32 × XS)) (hk_75 : ∀ (τ : XS) (a1 : Int32) (a2 : Int32) (a3 : Int32) (a4 : Int64) (a6 : Int32) (a7 : Int32) (a8 : Int32), AT z x 11 (wX z σ) rI (eqA ad) 0 0 0 0 ad 75 [(0, .ref 36), (1, .int a1), (2, .int a2), (3, .int a3), (4, .long a4), (6, .int a6), (7, .int a7), (8, .int a8)] [] τ (k_75 τ a1 a2 a3 a4 a6 a7 a8)) (τ : XS) (a1 : Int32) (a2 : Int32) (a3 : Int32) (a4 : Int64) (a6 : Int32) (a7 : Int32) (a8 : Int32) : AT z x 11 (wX z σ) rI (eqA ad) 0 0 0 0 ad 125 [(0, .ref 36), (1, .int a1), (2, .int a2), (3, .int a3), (4, .long a4), (6, .int a6), (7, .int a7), (8, .int a8)] [] τ (W_plan_J125 k_75 τ a1 a2 a3 a4 a6 a7 a8) := by
  unfold W_plan_J125
  refine at_aload_n (j := 0) hC rfl rfl dX10_plan_125 ?_
  refine gf_X10_67 hC dX10_plan_126 ?_
  refine at_iload (j := 7) hC rfl dX10_plan_129 ?_
  refine pf_X10_378 hC dX10_plan_131 ?_
  refine at_iconst hC ic_1 dX10_plan_134 ?_
  refine at_istore (lv' := [(9, .int 1), (0, .ref 36), (1, .int a1), (2, .int a2), (3, .int a3), (4, .long a4), (6, .int a6), (7, .int a7), (8, .int a8)]) hC dX10_plan_135 (by decide) rfl ?_
  refine at_iconst hC ic_0 dX10_plan_137 ?_
  refine at_istore (lv' := [(10, .int 0), (9, .int 1), (0, .ref 36), (1, .int a1), (2, .int a2), (3, .int a3), (4, .long a4), (6, .int a6), (7, .int a7), (8, .int a8)]) hC dX10_plan_138 (by decide) rfl ?_
  refine at_drop (lv' := [(0, .ref 36), (1, .int a1), (2, .int a2), (3, .int a3), (4, .long a4), (6, .int a6), (7, .int a7), (8, .int a8), (9, .int 1), (10, .int 0)]) [2, 3, 4, 5, 6, 7, 8, 9, 1, 0] rfl ?_
  exact t_W_plan_L140 hC hR k_75 hk_75 100000 (xI τ 207 a8) a1 a2 a3 a4 a6 a7 a8 1 0
set_option maxRecDepth 100000 in
theorem t_W_plan_L75 (hC : CX z ad x cX10_plan RX10 11 (some .int)) (hR : x.2.2.1 = rmk 11 0 0) (n : Nat) (τ : XS) (a1 : Int32) (a2 : Int32) (a3 : Int32) (a4 : Int64) (a6 : Int32) (a7 : Int32) (a8 : Int32) : AT z x 11 (wX z σ) rI (eqA ad) 0 0 0 0 ad 75 [(0, .ref 36), (1, .int a1), (2, .int a2), (3, .int a3), (4, .long a4), (6, .int a6), (7, .int a7), (8, .int a8)] [] τ (W_plan_L75 n τ a1 a2 a3 a4 a6 a7 a8) := by
  revert τ a1 a2 a3 a4 a6 a7 a8
  show ∀ (τ : XS) (a1 : Int32) (a2 : Int32) (a3 : Int32) (a4 : Int64) (a6 : Int32) (a7 : Int32) (a8 : Int32), AT z x 11 (wX z σ) rI (eqA ad) 0 0 0 0 ad 75 [(0, .ref 36), (1, .int a1), (2, .int a2), (3, .int a3), (4, .long a4), (6, .int a6), (7, .int a7), (8, .int a8)] [] τ (W_plan_L75_r n τ a1 a2 a3 a4 a6 a7 a8)
  induction n with
  | zero => intro τ a1 a2 a3 a4 a6 a7 a8; exact at_none
  | succ n hk_75 =>
    intro τ a1 a2 a3 a4 a6 a7 a8
    unfold W_plan_L75_r
    refine at_iload (j := 7) hC rfl dX10_plan_75 ?_
    refine at_iconst hC ic_1 dX10_plan_77 ?_
    refine at_aload_n (j := 0) hC rfl rfl dX10_plan_78 ?_
    refine gf_X10_58 hC dX10_plan_79 ?_
    refine gf_X10_362 hC dX10_plan_82 ?_
    refine at_ishl hC dX10_plan_85 ?_
    refine at_icmp_ge (tgt := 208) hC dX10_plan_86 rfl (fun _ => ?_) (fun _ => ?_)
    · refine at_aload_n (j := 0) hC rfl rfl dX10_plan_208 ?_
      refine gf_X10_67 hC dX10_plan_209 ?_
      refine at_iconst hC ic_0 dX10_plan_212 ?_
      refine pf_X10_378 hC dX10_plan_213 ?_
      refine at_iload (j := 6) hC rfl dX10_plan_216 ?_
      refine at_if_lt (tgt := 225) hC dX10_plan_218 rfl (fun _ => ?_) (fun _ => ?_)
      · refine at_iload (j := 6) hC rfl dX10_plan_225 ?_
        exact at_iret (F := eqA ad) (ra := rI) hC dX10_plan_227 rfl (Nat.le_refl 0) (Nat.le_refl 0) rfl
      · refine at_iload_n (j := 3) hC rfl rfl dX10_plan_221 ?_
        refine at_if_ne (tgt := 228) hC dX10_plan_222 rfl (fun _ => ?_) (fun _ => ?_)
        · refine at_iload (j := 5) hC rfl dX10_plan_228 ?_
          refine at_if_ge (tgt := 238) hC dX10_plan_230 rfl (fun _ => ?_) (fun _ => ?_)
          · refine at_aload_n (j := 0) hC rfl rfl dX10_plan_238 ?_
            refine gf_X10_58 hC dX10_plan_239 ?_
            refine at_iload (j := 6) hC rfl dX10_plan_242 ?_
            refine at_iconst hC ic_0 dX10_plan_244 ?_
            refine at_iload (j := 5) hC rfl dX10_plan_245 ?_
            refine at_callVpI hC hR lk_X10_381 (c_Tr_stepped (xI τ 207 0) a7 0 a6) dX10_plan_247 recX9 rfl rfl ⟨by decide, by decide⟩ (Nat.le_of_ble_eq_true rfl) ⟨Nat.le_refl 0, Nat.le_refl 0⟩ (fun r5 _ => ?_)
            exact at_iret (F := eqA ad) (ra := rI) hC dX10_plan_250 rfl (Nat.le_refl 0) (Nat.le_refl 0) rfl
          · refine at_bipush hC bi_m5 dX10_plan_233 ?_
            refine at_goto (tgt := 250) hC dX10_plan_235 rfl ?_
            exact at_iret (F := eqA ad) (ra := rI) hC dX10_plan_250 rfl (Nat.le_refl 0) (Nat.le_refl 0) rfl
        · refine at_iload (j := 6) hC rfl dX10_plan_225 ?_
          exact at_iret (F := eqA ad) (ra := rI) hC dX10_plan_227 rfl (Nat.le_refl 0) (Nat.le_refl 0) rfl
    · refine at_aload_n (j := 0) hC rfl rfl dX10_plan_89 ?_
      refine gf_X10_58 hC dX10_plan_90 ?_
      refine at_iload (j := 7) hC rfl dX10_plan_93 ?_
      refine at_callVpI hC hR lk_X10_371 (c_Tr_hasOneEach τ a8) dX10_plan_95 recX9 rfl rfl ⟨by decide, by decide⟩ (Nat.le_of_ble_eq_true rfl) ⟨Nat.le_refl 0, Nat.le_refl 0⟩ (fun r6 _ => ?_)
      refine at_if_eq (tgt := 202) hC dX10_plan_98 rfl (fun _ => ?_) (fun _ => ?_)
      · exact t_W_plan_J202 hC hR (W_plan_L75_r n) hk_75 τ a1 a2 a3 a4 a6 a7 a8
      · refine at_iload (j := 6) hC rfl dX10_plan_101 ?_
        refine at_if_lt (tgt := 125) hC dX10_plan_103 rfl (fun _ => ?_) (fun _ => ?_)
        · exact t_W_plan_J125 hC hR (W_plan_L75_r n) hk_75 τ a1 a2 a3 a4 a6 a7 a8
        · refine at_aload_n (j := 0) hC rfl rfl dX10_plan_106 ?_
          refine gf_X10_58 hC dX10_plan_107 ?_
          refine at_iload (j := 7) hC rfl dX10_plan_110 ?_
          refine at_iload (j := 6) hC rfl dX10_plan_112 ?_
          refine at_iload (j := 5) hC rfl dX10_plan_114 ?_
          refine at_callVpI hC hR lk_X10_374 (c_Tr_isBetter τ a8 a7 a6) dX10_plan_116 recX9 rfl rfl ⟨by decide, by decide⟩ (Nat.le_of_ble_eq_true rfl) ⟨Nat.le_refl 0, Nat.le_refl 0⟩ (fun r9 _ => ?_)
          refine at_if_ne (tgt := 125) hC dX10_plan_119 rfl (fun _ => ?_) (fun _ => ?_)
          · exact t_W_plan_J125 hC hR (W_plan_L75_r n) hk_75 τ a1 a2 a3 a4 a6 a7 a8
          · refine at_goto (tgt := 202) hC dX10_plan_122 rfl ?_
            exact t_W_plan_J202 hC hR (W_plan_L75_r n) hk_75 τ a1 a2 a3 a4 a6 a7 a8
set_option maxRecDepth 100000 in
theorem c_W_plan (τ : XS) (p0 : Int32) (p1 : Int32) (p2 : Int32) : Ct z (wX z σ) rI eqA yX10_plan cX10_plan 11 (some .int) 11 0 0 [.ref 36, .int p0, .int p1, .int p2] τ (W_plan τ p0 p1 p2) := by
  refine Ct.of (by decide) (Nat.le_of_ble_eq_true rfl) (fun ad x hC hR _ => ?_)
  show AT z x 11 (wX z σ) rI (eqA ad) 0 0 0 0 ad 0 [(0, .ref 36), (1, .int p0), (2, .int p1), (3, .int p2)] [] τ (W_plan τ p0 p1 p2)
  unfold W_plan
  refine at_iload_n (j := 3) hC rfl rfl dX10_plan_0 ?_
  refine at_if_lt (tgt := 9) hC dX10_plan_1 rfl (fun _ => ?_) (fun _ => ?_)
  · refine at_iconst hC ic_m1 dX10_plan_9 ?_
    exact at_iret (F := eqA ad) (ra := rI) hC dX10_plan_10 rfl (Nat.le_refl 0) (Nat.le_refl 0) rfl
  · refine at_iload_n (j := 3) hC rfl rfl dX10_plan_4 ?_
    refine at_iconst hC ic_1 dX10_plan_5 ?_
    refine at_icmp_le (tgt := 11) hC dX10_plan_6 rfl (fun _ => ?_) (fun _ => ?_)
    · refine at_iload_n (j := 1) hC rfl rfl dX10_plan_11 ?_
      refine at_callSpI hC hR lk_X10_271 (c_W_isYear τ p0) dX10_plan_12 rfl rfl ⟨by decide, by decide⟩ (Nat.le_of_ble_eq_true rfl) ⟨Nat.le_refl 0, Nat.le_refl 0⟩ (fun r1 _ => ?_)
      refine at_if_eq (tgt := 29) hC dX10_plan_15 rfl (fun _ => ?_) (fun _ => ?_)
      · refine at_bipush hC bi_m2 dX10_plan_29 ?_
        exact at_iret (F := eqA ad) (ra := rI) hC dX10_plan_31 rfl (Nat.le_refl 0) (Nat.le_refl 0) rfl
      · refine at_iload_n (j := 2) hC rfl rfl dX10_plan_18 ?_
        refine at_iconst hC ic_1 dX10_plan_19 ?_
        refine at_icmp_lt (tgt := 29) hC dX10_plan_20 rfl (fun _ => ?_) (fun _ => ?_)
        · refine at_bipush hC bi_m2 dX10_plan_29 ?_
          exact at_iret (F := eqA ad) (ra := rI) hC dX10_plan_31 rfl (Nat.le_refl 0) (Nat.le_refl 0) rfl
        · refine at_iload_n (j := 2) hC rfl rfl dX10_plan_23 ?_
          refine at_bipush hC bi_20 dX10_plan_24 ?_
          refine at_icmp_le (tgt := 32) hC dX10_plan_26 rfl (fun _ => ?_) (fun _ => ?_)
          · refine at_aload_n (j := 0) hC rfl rfl dX10_plan_32 ?_
            refine gf_X10_67 hC dX10_plan_33 ?_
            refine at_iconst hC ic_m1 dX10_plan_36 ?_
            refine at_callVU hC hR lk_X10_174 (c_Cn_look τ (-1)) dX10_plan_37 recX2 rfl rfl ⟨by decide, by decide⟩ (Nat.le_of_ble_eq_true rfl) ⟨Nat.le_refl 0, Nat.le_refl 0⟩ (fun r2 r2s _ => ?_)
            refine at_aload_n (j := 0) hC rfl rfl dX10_plan_40 ?_
            refine gf_X10_67 hC dX10_plan_41 ?_
            refine at_iload_n (j := 1) hC rfl rfl dX10_plan_44 ?_
            refine at_callVJ hC hR lk_X10_306 (c_Cn_chestBehind r2s p0) dX10_plan_45 recX2 rfl rfl ⟨by decide, by decide⟩ (Nat.le_of_ble_eq_true rfl) ⟨Nat.le_refl 0, Nat.le_refl 0⟩ (fun r3 r3s _ => ?_)
            refine at_lstore (lv' := [(4, .long r3), (0, .ref 36), (1, .int p0), (2, .int p1), (3, .int p2)]) hC dX10_plan_48 (by decide) rfl ?_
            refine at_aload_n (j := 1) hC rfl rfl dX10_plan_50 ?_
            refine gf_X10_67 hC dX10_plan_51 ?_
            refine at_iload_n (j := 2) hC rfl rfl dX10_plan_54 ?_
            refine at_bipush hC bi_100 dX10_plan_55 ?_
            refine at_imul hC dX10_plan_57 ?_
            refine at_bipush hC bi_100 dX10_plan_58 ?_
            refine at_iadd hC dX10_plan_60 ?_
            refine at_iconst hC ic_1 dX10_plan_61 ?_
            refine at_isub hC dX10_plan_62 ?_
            refine at_callVI hC hR lk_X10_368 (c_Cn_leastDue r3s (((p0 * 100) + 100) - 1)) dX10_plan_63 recX2 rfl rfl ⟨by decide, by decide⟩ (Nat.le_of_ble_eq_true rfl) ⟨Nat.le_refl 0, Nat.le_refl 0⟩ (fun r4 r4s _ => ?_)
            refine at_istore (lv' := [(6, .int r4), (4, .long r3), (0, .ref 36), (1, .int p0), (2, .int p1), (3, .int p2)]) hC dX10_plan_66 (by decide) rfl ?_
            refine at_bipush hC bi_m5 dX10_plan_68 ?_
            refine at_istore (lv' := [(7, .int (-5)), (6, .int r4), (4, .long r3), (0, .ref 36), (1, .int p0), (2, .int p1), (3, .int p2)]) hC dX10_plan_70 (by decide) rfl ?_
            refine at_iconst hC ic_0 dX10_plan_72 ?_
            refine at_istore (lv' := [(8, .int 0), (7, .int (-5)), (6, .int r4), (4, .long r3), (0, .ref 36), (1, .int p0), (2, .int p1), (3, .int p2)]) hC dX10_plan_73 (by decide) rfl ?_
            refine at_drop (lv' := [(0, .ref 36), (1, .int p0), (2, .int p1), (3, .int p2), (4, .long r3), (6, .int r4), (7, .int (-5)), (8, .int 0)]) [4, 5, 6, 7, 3, 2, 1, 0] rfl ?_
            exact t_W_plan_L75 hC hR 100000 r4s p0 p1 p2 r3 r4 (-5) 0
          · refine at_bipush hC bi_m2 dX10_plan_29 ?_
            exact at_iret (F := eqA ad) (ra := rI) hC dX10_plan_31 rfl (Nat.le_refl 0) (Nat.le_refl 0) rfl
    · refine at_iconst hC ic_m1 dX10_plan_9 ?_
      exact at_iret (F := eqA ad) (ra := rI) hC dX10_plan_10 rfl (Nat.le_refl 0) (Nat.le_refl 0) rfl
theorem dX10_told_0 : decode cX10_told 0 = .ok (.iload_n 1, 1) := by decide +kernel
theorem dX10_told_1 : decode cX10_told 1 = .ok (.iconst (-1), 1) := by decide +kernel
theorem dX10_told_2 : decode cX10_told 2 = .ok (.if_icmp .ne 11, 3) := by decide +kernel
theorem dX10_told_5 : decode cX10_told 5 = .ok (.iload_n 2, 1) := by decide +kernel
theorem dX10_told_6 : decode cX10_told 6 = .ok (.ifCond .ne 7, 3) := by decide +kernel
theorem dX10_told_9 : decode cX10_told 9 = .ok (.iconst 1, 1) := by decide +kernel
theorem dX10_told_10 : decode cX10_told 10 = .ok (.goto 4, 3) := by decide +kernel
theorem dX10_told_13 : decode cX10_told 13 = .ok (.iconst 0, 1) := by decide +kernel
theorem dX10_told_14 : decode cX10_told 14 = .ok (.istore 5, 2) := by decide +kernel
theorem dX10_told_16 : decode cX10_told 16 = .ok (.iload 5, 2) := by decide +kernel
theorem dX10_told_18 : decode cX10_told 18 = .ok (.ifCond .ne 27, 3) := by decide +kernel
theorem dX10_told_21 : decode cX10_told 21 = .ok (.aload_n 0, 1) := by decide +kernel
theorem dX10_told_22 : decode cX10_told 22 = .ok (.getfield 14, 3) := by decide +kernel
theorem dX10_told_25 : decode cX10_told 25 = .ok (.iload_n 1, 1) := by decide +kernel
theorem dX10_told_26 : decode cX10_told 26 = .ok (.invokevirtual 107, 3) := by decide +kernel
theorem dX10_told_29 : decode cX10_told 29 = .ok (.ifCond .eq 12, 3) := by decide +kernel
theorem dX10_told_32 : decode cX10_told 32 = .ok (.iload_n 2, 1) := by decide +kernel
theorem dX10_told_33 : decode cX10_told 33 = .ok (.ifCond .lt 8, 3) := by decide +kernel
theorem dX10_told_36 : decode cX10_told 36 = .ok (.iload_n 2, 1) := by decide +kernel
theorem dX10_told_37 : decode cX10_told 37 = .ok (.iconst 2, 1) := by decide +kernel
theorem dX10_told_38 : decode cX10_told 38 = .ok (.if_icmp .le 7, 3) := by decide +kernel
theorem dX10_told_41 : decode cX10_told 41 = .ok (.ldc2_w 274, 3) := by decide +kernel
theorem dX10_told_44 : decode cX10_told 44 = .ok (.lreturn, 1) := by decide +kernel
theorem dX10_told_45 : decode cX10_told 45 = .ok (.lload_n 3, 1) := by decide +kernel
theorem dX10_told_46 : decode cX10_told 46 = .ok (.ldc2_w 389, 3) := by decide +kernel
theorem dX10_told_49 : decode cX10_told 49 = .ok (.lcmp, 1) := by decide +kernel
theorem dX10_told_50 : decode cX10_told 50 = .ok (.ifCond .lt 11, 3) := by decide +kernel
theorem dX10_told_53 : decode cX10_told 53 = .ok (.lload_n 3, 1) := by decide +kernel
theorem dX10_told_54 : decode cX10_told 54 = .ok (.ldc2_w 391, 3) := by decide +kernel
theorem dX10_told_57 : decode cX10_told 57 = .ok (.lcmp, 1) := by decide +kernel
theorem dX10_told_58 : decode cX10_told 58 = .ok (.ifCond .le 7, 3) := by decide +kernel
theorem dX10_told_61 : decode cX10_told 61 = .ok (.ldc2_w 384, 3) := by decide +kernel
theorem dX10_told_64 : decode cX10_told 64 = .ok (.lreturn, 1) := by decide +kernel
theorem dX10_told_65 : decode cX10_told 65 = .ok (.aload_n 0, 1) := by decide +kernel
theorem dX10_told_66 : decode cX10_told 66 = .ok (.getfield 74, 3) := by decide +kernel
theorem dX10_told_69 : decode cX10_told 69 = .ok (.iload 5, 2) := by decide +kernel
theorem dX10_told_71 : decode cX10_told 71 = .ok (.ifCond .eq 8, 3) := by decide +kernel
theorem dX10_told_74 : decode cX10_told 74 = .ok (.bipush 72, 2) := by decide +kernel
theorem dX10_told_76 : decode cX10_told 76 = .ok (.goto 8, 3) := by decide +kernel
theorem dX10_told_79 : decode cX10_told 79 = .ok (.iconst 3, 1) := by decide +kernel
theorem dX10_told_80 : decode cX10_told 80 = .ok (.iload_n 1, 1) := by decide +kernel
theorem dX10_told_81 : decode cX10_told 81 = .ok (.imul, 1) := by decide +kernel
theorem dX10_told_82 : decode cX10_told 82 = .ok (.iload_n 2, 1) := by decide +kernel
theorem dX10_told_83 : decode cX10_told 83 = .ok (.iadd, 1) := by decide +kernel
theorem dX10_told_84 : decode cX10_told 84 = .ok (.lload_n 3, 1) := by decide +kernel
theorem dX10_told_85 : decode cX10_told 85 = .ok (.invokevirtual 393, 3) := by decide +kernel
theorem dX10_told_88 : decode cX10_told 88 = .ok (.lreturn, 1) := by decide +kernel
set_option maxRecDepth 100000 in
theorem t_W_told_J84 (hC : CX z ad x cX10_told RX10 6 (some .long)) (hR : x.2.2.1 = rmk 2 0 0) (τ : XS) (a3 : Int64) (s0 : Int32) : AT z x 6 (wX z σ) rJ (eqA ad) 0 0 0 0 ad 84 [(3, .long a3)] [.int s0, .ref 78] τ (W_told_J84 τ a3 s0) := by
  unfold W_told_J84
  refine at_lload_n (j := 0) hC rfl rfl dX10_told_84 ?_
  refine at_callVJ hC hR lk_X10_393 (c_Ty_exchange τ s0 a3) dX10_told_85 recX8 rfl rfl ⟨by decide, by decide⟩ (Nat.le_of_ble_eq_true rfl) ⟨Nat.le_refl 0, Nat.le_refl 0⟩ (fun r1 r1s _ => ?_)
  exact at_lret (F := eqA ad) (ra := rJ) hC dX10_told_88 rfl (Nat.le_refl 0) (Nat.le_refl 0) rfl
set_option maxRecDepth 100000 in
theorem t_W_told_J45 (hC : CX z ad x cX10_told RX10 6 (some .long)) (hR : x.2.2.1 = rmk 2 0 0) (τ : XS) (a1 : Int32) (a2 : Int32) (a3 : Int64) (a5 : Int32) : AT z x 6 (wX z σ) rJ (eqA ad) 0 0 0 0 ad 45 [(0, .ref 36), (1, .int a1), (2, .int a2), (3, .long a3), (5, .int a5)] [] τ (W_told_J45 τ a1 a2 a3 a5) := by
  unfold W_told_J45
  refine at_lload_n (j := 3) hC rfl rfl dX10_told_45 ?_
  refine at_ldc2 hC kl_X10_389 dX10_told_46 ?_
  refine at_lcmp hC dX10_told_49 ?_
  refine at_if_lt (tgt := 61) hC dX10_told_50 rfl (fun _ => ?_) (fun _ => ?_)
  · refine at_ldc2 hC kl_X10_384 dX10_told_61 ?_
    exact at_lret (F := eqA ad) (ra := rJ) hC dX10_told_64 rfl (Nat.le_refl 0) (Nat.le_refl 0) rfl
  · refine at_lload_n (j := 3) hC rfl rfl dX10_told_53 ?_
    refine at_ldc2 hC kl_X10_391 dX10_told_54 ?_
    refine at_lcmp hC dX10_told_57 ?_
    refine at_if_le (tgt := 65) hC dX10_told_58 rfl (fun _ => ?_) (fun _ => ?_)
    · refine at_aload_n (j := 0) hC rfl rfl dX10_told_65 ?_
      refine gf_X10_74 hC dX10_told_66 ?_
      refine at_iload (j := 4) hC rfl dX10_told_69 ?_
      refine at_if_eq (tgt := 79) hC dX10_told_71 rfl (fun _ => ?_) (fun _ => ?_)
      · refine at_iconst hC ic_3 dX10_told_79 ?_
        refine at_iload_n (j := 1) hC rfl rfl dX10_told_80 ?_
        refine at_imul hC dX10_told_81 ?_
        refine at_iload_n (j := 2) hC rfl rfl dX10_told_82 ?_
        refine at_iadd hC dX10_told_83 ?_
        refine at_drop (lv' := [(3, .long a3)]) [3] rfl ?_
        exact t_W_told_J84 hC hR τ a3 ((3 * a1) + a2)
      · refine at_bipush hC bi_72 dX10_told_74 ?_
        refine at_goto (tgt := 84) hC dX10_told_76 rfl ?_
        refine at_drop (lv' := [(3, .long a3)]) [3] rfl ?_
        exact t_W_told_J84 hC hR τ a3 72
    · refine at_ldc2 hC kl_X10_384 dX10_told_61 ?_
      exact at_lret (F := eqA ad) (ra := rJ) hC dX10_told_64 rfl (Nat.le_refl 0) (Nat.le_refl 0) rfl
set_option maxRecDepth 100000 in
theorem t_W_told_J14 (hC : CX z ad x cX10_told RX10 6 (some .long)) (hR : x.2.2.1 = rmk 2 0 0) (τ : XS) (a1 : Int32) (a2 : Int32) (a3 : Int64) (s0 : Int32) : AT z x 6 (wX z σ) rJ (eqA ad) 0 0 0 0 ad 14 [(0, .ref 36), (1, .int a1), (2, .int a2), (3, .long a3)] [.int s0] τ (W_told_J14 τ a1 a2 a3 s0) := by
  unfold W_told_J14
  refine at_istore (lv' := [(5, .int s0), (0, .ref 36), (1, .int a1), (2, .int a2), (3, .long a3)]) hC dX10_told_14 (by decide) rfl ?_
  refine at_iload (j := 0) hC rfl dX10_told_16 ?_
  refine at_if_ne (tgt := 45) hC dX10_told_18 rfl (fun _ => ?_) (fun _ => ?_)
  · refine at_drop (lv' := [(0, .ref 36), (1, .int a1), (2, .int a2), (3, .long a3), (5, .int s0)]) [1, 2, 3, 4, 0] rfl ?_
    exact t_W_told_J45 hC hR τ a1 a2 a3 s0
  · refine at_aload_n (j := 1) hC rfl rfl dX10_told_21 ?_
    refine gf_X10_14 hC dX10_told_22 ?_
    refine at_iload_n (j := 2) hC rfl rfl dX10_told_25 ?_
    refine at_callVpI hC hR lk_X10_107 (c_Bk_isPerson τ a1) dX10_told_26 recX1 rfl rfl ⟨by decide, by decide⟩ (Nat.le_of_ble_eq_true rfl) ⟨Nat.le_refl 0, Nat.le_refl 0⟩ (fun r2 _ => ?_)
    refine at_if_eq (tgt := 41) hC dX10_told_29 rfl (fun _ => ?_) (fun _ => ?_)
    · refine at_ldc2 hC kl_X10_274 dX10_told_41 ?_
      exact at_lret (F := eqA ad) (ra := rJ) hC dX10_told_44 rfl (Nat.le_refl 0) (Nat.le_refl 0) rfl
    · refine at_iload_n (j := 3) hC rfl rfl dX10_told_32 ?_
      refine at_if_lt (tgt := 41) hC dX10_told_33 rfl (fun _ => ?_) (fun _ => ?_)
      · refine at_ldc2 hC kl_X10_274 dX10_told_41 ?_
        exact at_lret (F := eqA ad) (ra := rJ) hC dX10_told_44 rfl (Nat.le_refl 0) (Nat.le_refl 0) rfl
      · refine at_iload_n (j := 3) hC rfl rfl dX10_told_36 ?_
        refine at_iconst hC ic_2 dX10_told_37 ?_
        refine at_icmp_le (tgt := 45) hC dX10_told_38 rfl (fun _ => ?_) (fun _ => ?_)
        · refine at_drop (lv' := [(0, .ref 36), (1, .int a1), (2, .int a2), (3, .long a3), (5, .int s0)]) [1, 2, 3, 4, 0] rfl ?_
          exact t_W_told_J45 hC hR τ a1 a2 a3 s0
        · refine at_ldc2 hC kl_X10_274 dX10_told_41 ?_
          exact at_lret (F := eqA ad) (ra := rJ) hC dX10_told_44 rfl (Nat.le_refl 0) (Nat.le_refl 0) rfl
set_option maxRecDepth 100000 in
theorem t_W_told_J13 (hC : CX z ad x cX10_told RX10 6 (some .long)) (hR : x.2.2.1 = rmk 2 0 0) (τ : XS) (a1 : Int32) (a2 : Int32) (a3 : Int64) : AT z x 6 (wX z σ) rJ (eqA ad) 0 0 0 0 ad 13 [(0, .ref 36), (1, .int a1), (2, .int a2), (3, .long a3)] [] τ (W_told_J13 τ a1 a2 a3) := by
  unfold W_told_J13
  refine at_iconst hC ic_0 dX10_told_13 ?_
  exact t_W_told_J14 hC hR τ a1 a2 a3 0
set_option maxRecDepth 100000 in
theorem c_W_told (τ : XS) (p0 : Int32) (p1 : Int32) (p2 : Int64) : Ct z (wX z σ) rJ eqA yX10_told cX10_told 6 (some .long) 2 0 0 [.ref 36, .int p0, .int p1, .long p2] τ (W_told τ p0 p1 p2) := by
  refine Ct.of (by decide) (Nat.le_of_ble_eq_true rfl) (fun ad x hC hR _ => ?_)
  show AT z x 6 (wX z σ) rJ (eqA ad) 0 0 0 0 ad 0 [(0, .ref 36), (1, .int p0), (2, .int p1), (3, .long p2)] [] τ (W_told τ p0 p1 p2)
  unfold W_told
  refine at_iload_n (j := 1) hC rfl rfl dX10_told_0 ?_
  refine at_iconst hC ic_m1 dX10_told_1 ?_
  refine at_icmp_ne (tgt := 13) hC dX10_told_2 rfl (fun _ => ?_) (fun _ => ?_)
  · exact t_W_told_J13 hC hR τ p0 p1 p2
  · refine at_iload_n (j := 2) hC rfl rfl dX10_told_5 ?_
    refine at_if_ne (tgt := 13) hC dX10_told_6 rfl (fun _ => ?_) (fun _ => ?_)
    · exact t_W_told_J13 hC hR τ p0 p1 p2
    · refine at_iconst hC ic_1 dX10_told_9 ?_
      refine at_goto (tgt := 14) hC dX10_told_10 rfl ?_
      exact t_W_told_J14 hC hR τ p0 p1 p2 1
end G
