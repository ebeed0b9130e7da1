section G
variable {z : ZZ} {x : XX} {ad : Nat → Nat} {σ : MS}
theorem dX10_vacant_0 : decode cX10_vacant 0 = .ok (.iload_n 1, 1) := by decide +kernel
theorem dX10_vacant_1 : decode cX10_vacant 1 = .ok (.invokestatic 271, 3) := by decide +kernel
theorem dX10_vacant_4 : decode cX10_vacant 4 = .ok (.ifCond .eq 14, 3) := by decide +kernel
theorem dX10_vacant_7 : decode cX10_vacant 7 = .ok (.aload_n 0, 1) := by decide +kernel
theorem dX10_vacant_8 : decode cX10_vacant 8 = .ok (.getfield 14, 3) := by decide +kernel
theorem dX10_vacant_11 : decode cX10_vacant 11 = .ok (.iload_n 2, 1) := by decide +kernel
theorem dX10_vacant_12 : decode cX10_vacant 12 = .ok (.invokevirtual 171, 3) := by decide +kernel
theorem dX10_vacant_15 : decode cX10_vacant 15 = .ok (.ifCond .ne 7, 3) := by decide +kernel
theorem dX10_vacant_18 : decode cX10_vacant 18 = .ok (.ldc2_w 274, 3) := by decide +kernel
theorem dX10_vacant_21 : decode cX10_vacant 21 = .ok (.lreturn, 1) := by decide +kernel
theorem dX10_vacant_22 : decode cX10_vacant 22 = .ok (.aload_n 0, 1) := by decide +kernel
theorem dX10_vacant_23 : decode cX10_vacant 23 = .ok (.getfield 23, 3) := by decide +kernel
theorem dX10_vacant_26 : decode cX10_vacant 26 = .ok (.iload_n 2, 1) := by decide +kernel
theorem dX10_vacant_27 : decode cX10_vacant 27 = .ok (.invokevirtual 119, 3) := by decide +kernel
theorem dX10_vacant_30 : decode cX10_vacant 30 = .ok (.aload_n 0, 1) := by decide +kernel
theorem dX10_vacant_31 : decode cX10_vacant 31 = .ok (.getfield 67, 3) := by decide +kernel
theorem dX10_vacant_34 : decode cX10_vacant 34 = .ok (.iload_n 1, 1) := by decide +kernel
theorem dX10_vacant_35 : decode cX10_vacant 35 = .ok (.invokevirtual 289, 3) := by decide +kernel
theorem dX10_vacant_38 : decode cX10_vacant 38 = .ok (.lreturn, 1) := by decide +kernel
set_option maxRecDepth 100000 in
theorem c_W_vacant (τ : XS) (p0 : Int32) (p1 : Int32) : Ct z (wX z σ) rJ eqA yX10_vacant cX10_vacant 3 (some .long) 9 0 0 [.ref 36, .int p0, .int p1] τ (W_vacant τ p0 p1) := by
  refine Ct.of (by decide) (Nat.le_of_ble_eq_true rfl) (fun ad x hC hR _ => ?_)
  show AT z x 3 (wX z σ) rJ (eqA ad) 0 0 0 0 ad 0 [(0, .ref 36), (1, .int p0), (2, .int p1)] [] τ (W_vacant τ p0 p1)
  unfold W_vacant
  refine at_iload_n (j := 1) hC rfl rfl dX10_vacant_0 ?_
  refine at_callSpI hC hR lk_X10_271 (c_W_isYear τ p0) dX10_vacant_1 rfl rfl ⟨by decide, by decide⟩ (Nat.le_of_ble_eq_true rfl) ⟨Nat.le_refl 0, Nat.le_refl 0⟩ (fun r1 _ => ?_)
  refine at_if_eq (tgt := 18) hC dX10_vacant_4 rfl (fun _ => ?_) (fun _ => ?_)
  · refine at_ldc2 hC kl_X10_274 dX10_vacant_18 ?_
    exact at_lret (F := eqA ad) (ra := rJ) hC dX10_vacant_21 rfl (Nat.le_refl 0) (Nat.le_refl 0) rfl
  · refine at_aload_n (j := 0) hC rfl rfl dX10_vacant_7 ?_
    refine gf_X10_14 hC dX10_vacant_8 ?_
    refine at_iload_n (j := 2) hC rfl rfl dX10_vacant_11 ?_
    refine at_callVpI hC hR lk_X10_171 (c_Bk_isReach τ p1) dX10_vacant_12 recX1 rfl rfl ⟨by decide, by decide⟩ (Nat.le_of_ble_eq_true rfl) ⟨Nat.le_refl 0, Nat.le_refl 0⟩ (fun r2 _ => ?_)
    refine at_if_ne (tgt := 22) hC dX10_vacant_15 rfl (fun _ => ?_) (fun _ => ?_)
    · refine at_aload_n (j := 0) hC rfl rfl dX10_vacant_22 ?_
      refine gf_X10_23 hC dX10_vacant_23 ?_
      refine at_iload_n (j := 2) hC rfl rfl dX10_vacant_26 ?_
      refine at_callVU hC hR lk_X10_119 (c_Lv_readBook τ p1) dX10_vacant_27 recX4 rfl rfl ⟨by decide, by decide⟩ (Nat.le_of_ble_eq_true rfl) ⟨Nat.le_refl 0, Nat.le_refl 0⟩ (fun r3 r3s _ => ?_)
      refine at_aload_n (j := 0) hC rfl rfl dX10_vacant_30 ?_
      refine gf_X10_67 hC dX10_vacant_31 ?_
      refine at_iload_n (j := 1) hC rfl rfl dX10_vacant_34 ?_
      refine at_callVJ hC hR lk_X10_289 (c_Cn_vacantIn r3s p0) dX10_vacant_35 recX2 rfl rfl ⟨by decide, by decide⟩ (Nat.le_of_ble_eq_true rfl) ⟨Nat.le_refl 0, Nat.le_refl 0⟩ (fun r4 r4s _ => ?_)
      exact at_lret (F := eqA ad) (ra := rJ) hC dX10_vacant_38 rfl (Nat.le_refl 0) (Nat.le_refl 0) rfl
    · refine at_ldc2 hC kl_X10_274 dX10_vacant_18 ?_
      exact at_lret (F := eqA ad) (ra := rJ) hC dX10_vacant_21 rfl (Nat.le_refl 0) (Nat.le_refl 0) rfl
theorem dX10_rent_0 : decode cX10_rent 0 = .ok (.aload_n 0, 1) := by decide +kernel
theorem dX10_rent_1 : decode cX10_rent 1 = .ok (.getfield 14, 3) := by decide +kernel
theorem dX10_rent_4 : decode cX10_rent 4 = .ok (.iload_n 1, 1) := by decide +kernel
theorem dX10_rent_5 : decode cX10_rent 5 = .ok (.invokevirtual 90, 3) := by decide +kernel
theorem dX10_rent_8 : decode cX10_rent 8 = .ok (.ifCond .eq 21, 3) := by decide +kernel
theorem dX10_rent_11 : decode cX10_rent 11 = .ok (.iload_n 2, 1) := by decide +kernel
theorem dX10_rent_12 : decode cX10_rent 12 = .ok (.invokestatic 271, 3) := by decide +kernel
theorem dX10_rent_15 : decode cX10_rent 15 = .ok (.ifCond .eq 14, 3) := by decide +kernel
theorem dX10_rent_18 : decode cX10_rent 18 = .ok (.aload_n 0, 1) := by decide +kernel
theorem dX10_rent_19 : decode cX10_rent 19 = .ok (.getfield 14, 3) := by decide +kernel
theorem dX10_rent_22 : decode cX10_rent 22 = .ok (.iload_n 3, 1) := by decide +kernel
theorem dX10_rent_23 : decode cX10_rent 23 = .ok (.invokevirtual 171, 3) := by decide +kernel
theorem dX10_rent_26 : decode cX10_rent 26 = .ok (.ifCond .ne 7, 3) := by decide +kernel
theorem dX10_rent_29 : decode cX10_rent 29 = .ok (.ldc2_w 274, 3) := by decide +kernel
theorem dX10_rent_32 : decode cX10_rent 32 = .ok (.lreturn, 1) := by decide +kernel
theorem dX10_rent_33 : decode cX10_rent 33 = .ok (.aload_n 0, 1) := by decide +kernel
theorem dX10_rent_34 : decode cX10_rent 34 = .ok (.getfield 67, 3) := by decide +kernel
theorem dX10_rent_37 : decode cX10_rent 37 = .ok (.iload_n 3, 1) := by decide +kernel
theorem dX10_rent_38 : decode cX10_rent 38 = .ok (.invokevirtual 174, 3) := by decide +kernel
theorem dX10_rent_41 : decode cX10_rent 41 = .ok (.aload_n 0, 1) := by decide +kernel
theorem dX10_rent_42 : decode cX10_rent 42 = .ok (.getfield 67, 3) := by decide +kernel
theorem dX10_rent_45 : decode cX10_rent 45 = .ok (.iload_n 1, 1) := by decide +kernel
theorem dX10_rent_46 : decode cX10_rent 46 = .ok (.iload_n 2, 1) := by decide +kernel
theorem dX10_rent_47 : decode cX10_rent 47 = .ok (.invokevirtual 293, 3) := by decide +kernel
theorem dX10_rent_50 : decode cX10_rent 50 = .ok (.lreturn, 1) := by decide +kernel
set_option maxRecDepth 100000 in
theorem c_W_rent (τ : XS) (p0 : Int32) (p1 : Int32) (p2 : Int32) : Ct z (wX z σ) rJ eqA yX10_rent cX10_rent 4 (some .long) 10 0 0 [.ref 36, .int p0, .int p1, .int p2] τ (W_rent τ p0 p1 p2) := by
  refine Ct.of (by decide) (Nat.le_of_ble_eq_true rfl) (fun ad x hC hR _ => ?_)
  show AT z x 4 (wX z σ) rJ (eqA ad) 0 0 0 0 ad 0 [(0, .ref 36), (1, .int p0), (2, .int p1), (3, .int p2)] [] τ (W_rent τ p0 p1 p2)
  unfold W_rent
  refine at_aload_n (j := 0) hC rfl rfl dX10_rent_0 ?_
  refine gf_X10_14 hC dX10_rent_1 ?_
  refine at_iload_n (j := 1) hC rfl rfl dX10_rent_4 ?_
  refine at_callVpI hC hR lk_X10_90 (c_Bk_isWoman τ p0) dX10_rent_5 recX1 rfl rfl ⟨by decide, by decide⟩ (Nat.le_of_ble_eq_true rfl) ⟨Nat.le_refl 0, Nat.le_refl 0⟩ (fun r1 _ => ?_)
  refine at_if_eq (tgt := 29) hC dX10_rent_8 rfl (fun _ => ?_) (fun _ => ?_)
  · refine at_ldc2 hC kl_X10_274 dX10_rent_29 ?_
    exact at_lret (F := eqA ad) (ra := rJ) hC dX10_rent_32 rfl (Nat.le_refl 0) (Nat.le_refl 0) rfl
  · refine at_iload_n (j := 2) hC rfl rfl dX10_rent_11 ?_
    refine at_callSpI hC hR lk_X10_271 (c_W_isYear τ p1) dX10_rent_12 rfl rfl ⟨by decide, by decide⟩ (Nat.le_of_ble_eq_true rfl) ⟨Nat.le_refl 0, Nat.le_refl 0⟩ (fun r2 _ => ?_)
    refine at_if_eq (tgt := 29) hC dX10_rent_15 rfl (fun _ => ?_) (fun _ => ?_)
    · refine at_ldc2 hC kl_X10_274 dX10_rent_29 ?_
      exact at_lret (F := eqA ad) (ra := rJ) hC dX10_rent_32 rfl (Nat.le_refl 0) (Nat.le_refl 0) rfl
    · refine at_aload_n (j := 0) hC rfl rfl dX10_rent_18 ?_
      refine gf_X10_14 hC dX10_rent_19 ?_
      refine at_iload_n (j := 3) hC rfl rfl dX10_rent_22 ?_
      refine at_callVpI hC hR lk_X10_171 (c_Bk_isReach τ p2) dX10_rent_23 recX1 rfl rfl ⟨by decide, by decide⟩ (Nat.le_of_ble_eq_true rfl) ⟨Nat.le_refl 0, Nat.le_refl 0⟩ (fun r3 _ => ?_)
      refine at_if_ne (tgt := 33) hC dX10_rent_26 rfl (fun _ => ?_) (fun _ => ?_)
      · refine at_aload_n (j := 0) hC rfl rfl dX10_rent_33 ?_
        refine gf_X10_67 hC dX10_rent_34 ?_
        refine at_iload_n (j := 3) hC rfl rfl dX10_rent_37 ?_
        refine at_callVU hC hR lk_X10_174 (c_Cn_look τ p2) dX10_rent_38 recX2 rfl rfl ⟨by decide, by decide⟩ (Nat.le_of_ble_eq_true rfl) ⟨Nat.le_refl 0, Nat.le_refl 0⟩ (fun r4 r4s _ => ?_)
        refine at_aload_n (j := 0) hC rfl rfl dX10_rent_41 ?_
        refine gf_X10_67 hC dX10_rent_42 ?_
        refine at_iload_n (j := 1) hC rfl rfl dX10_rent_45 ?_
        refine at_iload_n (j := 2) hC rfl rfl dX10_rent_46 ?_
        refine at_callVJ hC hR lk_X10_293 (c_Cn_rentOf r4s p0 p1) dX10_rent_47 recX2 rfl rfl ⟨by decide, by decide⟩ (Nat.le_of_ble_eq_true rfl) ⟨Nat.le_refl 0, Nat.le_refl 0⟩ (fun r5 r5s _ => ?_)
        exact at_lret (F := eqA ad) (ra := rJ) hC dX10_rent_50 rfl (Nat.le_refl 0) (Nat.le_refl 0) rfl
      · refine at_ldc2 hC kl_X10_274 dX10_rent_29 ?_
        exact at_lret (F := eqA ad) (ra := rJ) hC dX10_rent_32 rfl (Nat.le_refl 0) (Nat.le_refl 0) rfl
theorem dX10_widow_0 : decode cX10_widow 0 = .ok (.aload_n 0, 1) := by decide +kernel
theorem dX10_widow_1 : decode cX10_widow 1 = .ok (.getfield 14, 3) := by decide +kernel
theorem dX10_widow_4 : decode cX10_widow 4 = .ok (.iload_n 1, 1) := by decide +kernel
theorem dX10_widow_5 : decode cX10_widow 5 = .ok (.invokevirtual 90, 3) := by decide +kernel
theorem dX10_widow_8 : decode cX10_widow 8 = .ok (.ifCond .eq 21, 3) := by decide +kernel
theorem dX10_widow_11 : decode cX10_widow 11 = .ok (.iload_n 2, 1) := by decide +kernel
theorem dX10_widow_12 : decode cX10_widow 12 = .ok (.invokestatic 93, 3) := by decide +kernel
theorem dX10_widow_15 : decode cX10_widow 15 = .ok (.ifCond .eq 14, 3) := by decide +kernel
theorem dX10_widow_18 : decode cX10_widow 18 = .ok (.aload_n 0, 1) := by decide +kernel
theorem dX10_widow_19 : decode cX10_widow 19 = .ok (.getfield 14, 3) := by decide +kernel
theorem dX10_widow_22 : decode cX10_widow 22 = .ok (.iload_n 3, 1) := by decide +kernel
theorem dX10_widow_23 : decode cX10_widow 23 = .ok (.invokevirtual 171, 3) := by decide +kernel
theorem dX10_widow_26 : decode cX10_widow 26 = .ok (.ifCond .ne 7, 3) := by decide +kernel
theorem dX10_widow_29 : decode cX10_widow 29 = .ok (.ldc2_w 274, 3) := by decide +kernel
theorem dX10_widow_32 : decode cX10_widow 32 = .ok (.lreturn, 1) := by decide +kernel
theorem dX10_widow_33 : decode cX10_widow 33 = .ok (.aload_n 0, 1) := by decide +kernel
theorem dX10_widow_34 : decode cX10_widow 34 = .ok (.getfield 67, 3) := by decide +kernel
theorem dX10_widow_37 : decode cX10_widow 37 = .ok (.iload_n 3, 1) := by decide +kernel
theorem dX10_widow_38 : decode cX10_widow 38 = .ok (.invokevirtual 174, 3) := by decide +kernel
theorem dX10_widow_41 : decode cX10_widow 41 = .ok (.aload_n 0, 1) := by decide +kernel
theorem dX10_widow_42 : decode cX10_widow 42 = .ok (.getfield 67, 3) := by decide +kernel
theorem dX10_widow_45 : decode cX10_widow 45 = .ok (.iload_n 1, 1) := by decide +kernel
theorem dX10_widow_46 : decode cX10_widow 46 = .ok (.iload_n 2, 1) := by decide +kernel
theorem dX10_widow_47 : decode cX10_widow 47 = .ok (.invokevirtual 296, 3) := by decide +kernel
theorem dX10_widow_50 : decode cX10_widow 50 = .ok (.lreturn, 1) := by decide +kernel
set_option maxRecDepth 100000 in
theorem c_W_widow (τ : XS) (p0 : Int32) (p1 : Int32) (p2 : Int32) : Ct z (wX z σ) rJ eqA yX10_widow cX10_widow 4 (some .long) 10 0 0 [.ref 36, .int p0, .int p1, .int p2] τ (W_widow τ p0 p1 p2) := by
  refine Ct.of (by decide) (Nat.le_of_ble_eq_true rfl) (fun ad x hC hR _ => ?_)
  show AT z x 4 (wX z σ) rJ (eqA ad) 0 0 0 0 ad 0 [(0, .ref 36), (1, .int p0), (2, .int p1), (3, .int p2)] [] τ (W_widow τ p0 p1 p2)
  unfold W_widow
  refine at_aload_n (j := 0) hC rfl rfl dX10_widow_0 ?_
  refine gf_X10_14 hC dX10_widow_1 ?_
  refine at_iload_n (j := 1) hC rfl rfl dX10_widow_4 ?_
  refine at_callVpI hC hR lk_X10_90 (c_Bk_isWoman τ p0) dX10_widow_5 recX1 rfl rfl ⟨by decide, by decide⟩ (Nat.le_of_ble_eq_true rfl) ⟨Nat.le_refl 0, Nat.le_refl 0⟩ (fun r1 _ => ?_)
  refine at_if_eq (tgt := 29) hC dX10_widow_8 rfl (fun _ => ?_) (fun _ => ?_)
  · refine at_ldc2 hC kl_X10_274 dX10_widow_29 ?_
    exact at_lret (F := eqA ad) (ra := rJ) hC dX10_widow_32 rfl (Nat.le_refl 0) (Nat.le_refl 0) rfl
  · refine at_iload_n (j := 2) hC rfl rfl dX10_widow_11 ?_
    refine at_callSpI hC hR lk_X10_93 (c_W_isDay τ p1) dX10_widow_12 rfl rfl ⟨by decide, by decide⟩ (Nat.le_of_ble_eq_true rfl) ⟨Nat.le_refl 0, Nat.le_refl 0⟩ (fun r2 _ => ?_)
    refine at_if_eq (tgt := 29) hC dX10_widow_15 rfl (fun _ => ?_) (fun _ => ?_)
    · refine at_ldc2 hC kl_X10_274 dX10_widow_29 ?_
      exact at_lret (F := eqA ad) (ra := rJ) hC dX10_widow_32 rfl (Nat.le_refl 0) (Nat.le_refl 0) rfl
    · refine at_aload_n (j := 0) hC rfl rfl dX10_widow_18 ?_
      refine gf_X10_14 hC dX10_widow_19 ?_
      refine at_iload_n (j := 3) hC rfl rfl dX10_widow_22 ?_
      refine at_callVpI hC hR lk_X10_171 (c_Bk_isReach τ p2) dX10_widow_23 recX1 rfl rfl ⟨by decide, by decide⟩ (Nat.le_of_ble_eq_true rfl) ⟨Nat.le_refl 0, Nat.le_refl 0⟩ (fun r3 _ => ?_)
      refine at_if_ne (tgt := 33) hC dX10_widow_26 rfl (fun _ => ?_) (fun _ => ?_)
      · refine at_aload_n (j := 0) hC rfl rfl dX10_widow_33 ?_
        refine gf_X10_67 hC dX10_widow_34 ?_
        refine at_iload_n (j := 3) hC rfl rfl dX10_widow_37 ?_
        refine at_callVU hC hR lk_X10_174 (c_Cn_look τ p2) dX10_widow_38 recX2 rfl rfl ⟨by decide, by decide⟩ (Nat.le_of_ble_eq_true rfl) ⟨Nat.le_refl 0, Nat.le_refl 0⟩ (fun r4 r4s _ => ?_)
        refine at_aload_n (j := 0) hC rfl rfl dX10_widow_41 ?_
        refine gf_X10_67 hC dX10_widow_42 ?_
        refine at_iload_n (j := 1) hC rfl rfl dX10_widow_45 ?_
        refine at_iload_n (j := 2) hC rfl rfl dX10_widow_46 ?_
        refine at_callVJ hC hR lk_X10_296 (c_Cn_yearlyRent r4s p0 p1) dX10_widow_47 recX2 rfl rfl ⟨by decide, by decide⟩ (Nat.le_of_ble_eq_true rfl) ⟨Nat.le_refl 0, Nat.le_refl 0⟩ (fun r5 r5s _ => ?_)
        exact at_lret (F := eqA ad) (ra := rJ) hC dX10_widow_50 rfl (Nat.le_refl 0) (Nat.le_refl 0) rfl
      · refine at_ldc2 hC kl_X10_274 dX10_widow_29 ?_
        exact at_lret (F := eqA ad) (ra := rJ) hC dX10_widow_32 rfl (Nat.le_refl 0) (Nat.le_refl 0) rfl
theorem dX10_sum_0 : decode cX10_sum 0 = .ok (.aload_n 0, 1) := by decide +kernel
theorem dX10_sum_1 : decode cX10_sum 1 = .ok (.getfield 14, 3) := by decide +kernel
theorem dX10_sum_4 : decode cX10_sum 4 = .ok (.iload_n 1, 1) := by decide +kernel
theorem dX10_sum_5 : decode cX10_sum 5 = .ok (.invokevirtual 107, 3) := by decide +kernel
theorem dX10_sum_8 : decode cX10_sum 8 = .ok (.ifCond .eq 21, 3) := by decide +kernel
theorem dX10_sum_11 : decode cX10_sum 11 = .ok (.iload_n 2, 1) := by decide +kernel
theorem dX10_sum_12 : decode cX10_sum 12 = .ok (.invokestatic 271, 3) := by decide +kernel
theorem dX10_sum_15 : decode cX10_sum 15 = .ok (.ifCond .eq 14, 3) := by decide +kernel
theorem dX10_sum_18 : decode cX10_sum 18 = .ok (.aload_n 0, 1) := by decide +kernel
theorem dX10_sum_19 : decode cX10_sum 19 = .ok (.getfield 14, 3) := by decide +kernel
theorem dX10_sum_22 : decode cX10_sum 22 = .ok (.iload_n 3, 1) := by decide +kernel
theorem dX10_sum_23 : decode cX10_sum 23 = .ok (.invokevirtual 171, 3) := by decide +kernel
theorem dX10_sum_26 : decode cX10_sum 26 = .ok (.ifCond .ne 7, 3) := by decide +kernel
theorem dX10_sum_29 : decode cX10_sum 29 = .ok (.ldc2_w 274, 3) := by decide +kernel
theorem dX10_sum_32 : decode cX10_sum 32 = .ok (.lreturn, 1) := by decide +kernel
theorem dX10_sum_33 : decode cX10_sum 33 = .ok (.aload_n 0, 1) := by decide +kernel
theorem dX10_sum_34 : decode cX10_sum 34 = .ok (.getfield 67, 3) := by decide +kernel
theorem dX10_sum_37 : decode cX10_sum 37 = .ok (.iload_n 3, 1) := by decide +kernel
theorem dX10_sum_38 : decode cX10_sum 38 = .ok (.invokevirtual 174, 3) := by decide +kernel
theorem dX10_sum_41 : decode cX10_sum 41 = .ok (.aload_n 0, 1) := by decide +kernel
theorem dX10_sum_42 : decode cX10_sum 42 = .ok (.getfield 67, 3) := by decide +kernel
theorem dX10_sum_45 : decode cX10_sum 45 = .ok (.iload_n 1, 1) := by decide +kernel
theorem dX10_sum_46 : decode cX10_sum 46 = .ok (.iload_n 2, 1) := by decide +kernel
theorem dX10_sum_47 : decode cX10_sum 47 = .ok (.invokevirtual 299, 3) := by decide +kernel
theorem dX10_sum_50 : decode cX10_sum 50 = .ok (.lreturn, 1) := by decide +kernel
set_option maxRecDepth 100000 in
theorem c_W_sum (τ : XS) (p0 : Int32) (p1 : Int32) (p2 : Int32) : Ct z (wX z σ) rJ eqA yX10_sum cX10_sum 4 (some .long) 10 0 0 [.ref 36, .int p0, .int p1, .int p2] τ (W_sum τ p0 p1 p2) := by
  refine Ct.of (by decide) (Nat.le_of_ble_eq_true rfl) (fun ad x hC hR _ => ?_)
  show AT z x 4 (wX z σ) rJ (eqA ad) 0 0 0 0 ad 0 [(0, .ref 36), (1, .int p0), (2, .int p1), (3, .int p2)] [] τ (W_sum τ p0 p1 p2)
  unfold W_sum
  refine at_aload_n (j := 0) hC rfl rfl dX10_sum_0 ?_
  refine gf_X10_14 hC dX10_sum_1 ?_
  refine at_iload_n (j := 1) hC rfl rfl dX10_sum_4 ?_
  refine at_callVpI hC hR lk_X10_107 (c_Bk_isPerson τ p0) dX10_sum_5 recX1 rfl rfl ⟨by decide, by decide⟩ (Nat.le_of_ble_eq_true rfl) ⟨Nat.le_refl 0, Nat.le_refl 0⟩ (fun r1 _ => ?_)
  refine at_if_eq (tgt := 29) hC dX10_sum_8 rfl (fun _ => ?_) (fun _ => ?_)
  · refine at_ldc2 hC kl_X10_274 dX10_sum_29 ?_
    exact at_lret (F := eqA ad) (ra := rJ) hC dX10_sum_32 rfl (Nat.le_refl 0) (Nat.le_refl 0) rfl
  · refine at_iload_n (j := 2) hC rfl rfl dX10_sum_11 ?_
    refine at_callSpI hC hR lk_X10_271 (c_W_isYear τ p1) dX10_sum_12 rfl rfl ⟨by decide, by decide⟩ (Nat.le_of_ble_eq_true rfl) ⟨Nat.le_refl 0, Nat.le_refl 0⟩ (fun r2 _ => ?_)
    refine at_if_eq (tgt := 29) hC dX10_sum_15 rfl (fun _ => ?_) (fun _ => ?_)
    · refine at_ldc2 hC kl_X10_274 dX10_sum_29 ?_
      exact at_lret (F := eqA ad) (ra := rJ) hC dX10_sum_32 rfl (Nat.le_refl 0) (Nat.le_refl 0) rfl
    · refine at_aload_n (j := 0) hC rfl rfl dX10_sum_18 ?_
      refine gf_X10_14 hC dX10_sum_19 ?_
      refine at_iload_n (j := 3) hC rfl rfl dX10_sum_22 ?_
      refine at_callVpI hC hR lk_X10_171 (c_Bk_isReach τ p2) dX10_sum_23 recX1 rfl rfl ⟨by decide, by decide⟩ (Nat.le_of_ble_eq_true rfl) ⟨Nat.le_refl 0, Nat.le_refl 0⟩ (fun r3 _ => ?_)
      refine at_if_ne (tgt := 33) hC dX10_sum_26 rfl (fun _ => ?_) (fun _ => ?_)
      · refine at_aload_n (j := 0) hC rfl rfl dX10_sum_33 ?_
        refine gf_X10_67 hC dX10_sum_34 ?_
        refine at_iload_n (j := 3) hC rfl rfl dX10_sum_37 ?_
        refine at_callVU hC hR lk_X10_174 (c_Cn_look τ p2) dX10_sum_38 recX2 rfl rfl ⟨by decide, by decide⟩ (Nat.le_of_ble_eq_true rfl) ⟨Nat.le_refl 0, Nat.le_refl 0⟩ (fun r4 r4s _ => ?_)
        refine at_aload_n (j := 0) hC rfl rfl dX10_sum_41 ?_
        refine gf_X10_67 hC dX10_sum_42 ?_
        refine at_iload_n (j := 1) hC rfl rfl dX10_sum_45 ?_
        refine at_iload_n (j := 2) hC rfl rfl dX10_sum_46 ?_
        refine at_callVJ hC hR lk_X10_299 (c_Cn_sumOf r4s p0 p1) dX10_sum_47 recX2 rfl rfl ⟨by decide, by decide⟩ (Nat.le_of_ble_eq_true rfl) ⟨Nat.le_refl 0, Nat.le_refl 0⟩ (fun r5 r5s _ => ?_)
        exact at_lret (F := eqA ad) (ra := rJ) hC dX10_sum_50 rfl (Nat.le_refl 0) (Nat.le_refl 0) rfl
      · refine at_ldc2 hC kl_X10_274 dX10_sum_29 ?_
        exact at_lret (F := eqA ad) (ra := rJ) hC dX10_sum_32 rfl (Nat.le_refl 0) (Nat.le_refl 0) rfl
theorem dX10_begin_0 : decode cX10_begin 0 = .ok (.iload_n 1, 1) := by decide +kernel
theorem dX10_begin_1 : decode cX10_begin 1 = .ok (.ifCond .lt 10, 3) := by decide +kernel
theorem dX10_begin_4 : decode cX10_begin 4 = .ok (.iload_n 1, 1) := by decide +kernel
theorem dX10_begin_5 : decode cX10_begin 5 = .ok (.ldc_w 302, 3) := by decide +kernel
theorem dX10_begin_8 : decode cX10_begin 8 = .ok (.if_icmp .le 6, 3) := by decide +kernel
theorem dX10_begin_11 : decode cX10_begin 11 = .ok (.bipush (-2), 2) := by decide +kernel
theorem dX10_begin_13 : decode cX10_begin 13 = .ok (.ireturn, 1) := by decide +kernel
theorem dX10_begin_14 : decode cX10_begin 14 = .ok (.aload_n 0, 1) := by decide +kernel
theorem dX10_begin_15 : decode cX10_begin 15 = .ok (.getfield 67, 3) := by decide +kernel
theorem dX10_begin_18 : decode cX10_begin 18 = .ok (.getfield 303, 3) := by decide +kernel
theorem dX10_begin_21 : decode cX10_begin 21 = .ok (.istore_n 2, 1) := by decide +kernel
theorem dX10_begin_22 : decode cX10_begin 22 = .ok (.aload_n 0, 1) := by decide +kernel
theorem dX10_begin_23 : decode cX10_begin 23 = .ok (.getfield 67, 3) := by decide +kernel
theorem dX10_begin_26 : decode cX10_begin 26 = .ok (.iload_n 1, 1) := by decide +kernel
theorem dX10_begin_27 : decode cX10_begin 27 = .ok (.putfield 303, 3) := by decide +kernel
theorem dX10_begin_30 : decode cX10_begin 30 = .ok (.iload_n 2, 1) := by decide +kernel
theorem dX10_begin_31 : decode cX10_begin 31 = .ok (.ireturn, 1) := by decide +kernel
set_option maxRecDepth 100000 in
theorem c_W_begin (τ : XS) (p0 : Int32) : Ct z (wX z σ) rI eqA yX10_begin cX10_begin 3 (some .int) 1 0 0 [.ref 36, .int p0] τ (W_begin τ p0) := by
  refine Ct.of (by decide) (Nat.le_of_ble_eq_true rfl) (fun ad x hC hR _ => ?_)
  show AT z x 3 (wX z σ) rI (eqA ad) 0 0 0 0 ad 0 [(0, .ref 36), (1, .int p0)] [] τ (W_begin τ p0)
  unfold W_begin
  refine at_iload_n (j := 1) hC rfl rfl dX10_begin_0 ?_
  refine at_if_lt (tgt := 11) hC dX10_begin_1 rfl (fun _ => ?_) (fun _ => ?_)
  · refine at_bipush hC bi_m2 dX10_begin_11 ?_
    exact at_iret (F := eqA ad) (ra := rI) hC dX10_begin_13 rfl (Nat.le_refl 0) (Nat.le_refl 0) rfl
  · refine at_iload_n (j := 1) hC rfl rfl dX10_begin_4 ?_
    refine at_ldcw hC kc_X10_302 dX10_begin_5 ?_
    refine at_icmp_le (tgt := 14) hC dX10_begin_8 rfl (fun _ => ?_) (fun _ => ?_)
    · refine at_aload_n (j := 0) hC rfl rfl dX10_begin_14 ?_
      refine gf_X10_67 hC dX10_begin_15 ?_
      refine gf_X10_303 hC dX10_begin_18 ?_
      refine at_istore_n (lv' := [(2, .int (τ.1 205)), (0, .ref 36), (1, .int p0)]) hC rfl dX10_begin_21 (by decide) rfl ?_
      refine at_aload_n (j := 1) hC rfl rfl dX10_begin_22 ?_
      refine gf_X10_67 hC dX10_begin_23 ?_
      refine at_iload_n (j := 2) hC rfl rfl dX10_begin_26 ?_
      refine pf_X10_303 hC dX10_begin_27 ?_
      refine at_iload_n (j := 0) hC rfl rfl dX10_begin_30 ?_
      exact at_iret (F := eqA ad) (ra := rI) hC dX10_begin_31 rfl (Nat.le_refl 0) (Nat.le_refl 0) rfl
    · refine at_bipush hC bi_m2 dX10_begin_11 ?_
      exact at_iret (F := eqA ad) (ra := rI) hC dX10_begin_13 rfl (Nat.le_refl 0) (Nat.le_refl 0) rfl
theorem dX10_chest_0 : decode cX10_chest 0 = .ok (.iload_n 1, 1) := by decide +kernel
theorem dX10_chest_1 : decode cX10_chest 1 = .ok (.invokestatic 271, 3) := by decide +kernel
theorem dX10_chest_4 : decode cX10_chest 4 = .ok (.ifCond .eq 14, 3) := by decide +kernel
theorem dX10_chest_7 : decode cX10_chest 7 = .ok (.aload_n 0, 1) := by decide +kernel
theorem dX10_chest_8 : decode cX10_chest 8 = .ok (.getfield 14, 3) := by decide +kernel
theorem dX10_chest_11 : decode cX10_chest 11 = .ok (.iload_n 2, 1) := by decide +kernel
theorem dX10_chest_12 : decode cX10_chest 12 = .ok (.invokevirtual 171, 3) := by decide +kernel
theorem dX10_chest_15 : decode cX10_chest 15 = .ok (.ifCond .ne 7, 3) := by decide +kernel
theorem dX10_chest_18 : decode cX10_chest 18 = .ok (.ldc2_w 274, 3) := by decide +kernel
theorem dX10_chest_21 : decode cX10_chest 21 = .ok (.lreturn, 1) := by decide +kernel
theorem dX10_chest_22 : decode cX10_chest 22 = .ok (.aload_n 0, 1) := by decide +kernel
theorem dX10_chest_23 : decode cX10_chest 23 = .ok (.getfield 67, 3) := by decide +kernel
theorem dX10_chest_26 : decode cX10_chest 26 = .ok (.iload_n 2, 1) := by decide +kernel
theorem dX10_chest_27 : decode cX10_chest 27 = .ok (.invokevirtual 174, 3) := by decide +kernel
theorem dX10_chest_30 : decode cX10_chest 30 = .ok (.aload_n 0, 1) := by decide +kernel
theorem dX10_chest_31 : decode cX10_chest 31 = .ok (.getfield 67, 3) := by decide +kernel
theorem dX10_chest_34 : decode cX10_chest 34 = .ok (.iload_n 1, 1) := by decide +kernel
theorem dX10_chest_35 : decode cX10_chest 35 = .ok (.invokevirtual 306, 3) := by decide +kernel
theorem dX10_chest_38 : decode cX10_chest 38 = .ok (.lreturn, 1) := by decide +kernel
set_option maxRecDepth 100000 in
theorem c_W_chest (τ : XS) (p0 : Int32) (p1 : Int32) : Ct z (wX z σ) rJ eqA yX10_chest cX10_chest 3 (some .long) 11 0 0 [.ref 36, .int p0, .int p1] τ (W_chest τ p0 p1) := by
  refine Ct.of (by decide) (Nat.le_of_ble_eq_true rfl) (fun ad x hC hR _ => ?_)
  show AT z x 3 (wX z σ) rJ (eqA ad) 0 0 0 0 ad 0 [(0, .ref 36), (1, .int p0), (2, .int p1)] [] τ (W_chest τ p0 p1)
  unfold W_chest
  refine at_iload_n (j := 1) hC rfl rfl dX10_chest_0 ?_
  refine at_callSpI hC hR lk_X10_271 (c_W_isYear τ p0) dX10_chest_1 rfl rfl ⟨by decide, by decide⟩ (Nat.le_of_ble_eq_true rfl) ⟨Nat.le_refl 0, Nat.le_refl 0⟩ (fun r1 _ => ?_)
  refine at_if_eq (tgt := 18) hC dX10_chest_4 rfl (fun _ => ?_) (fun _ => ?_)
  · refine at_ldc2 hC kl_X10_274 dX10_chest_18 ?_
    exact at_lret (F := eqA ad) (ra := rJ) hC dX10_chest_21 rfl (Nat.le_refl 0) (Nat.le_refl 0) rfl
  · refine at_aload_n (j := 0) hC rfl rfl dX10_chest_7 ?_
    refine gf_X10_14 hC dX10_chest_8 ?_
    refine at_iload_n (j := 2) hC rfl rfl dX10_chest_11 ?_
    refine at_callVpI hC hR lk_X10_171 (c_Bk_isReach τ p1) dX10_chest_12 recX1 rfl rfl ⟨by decide, by decide⟩ (Nat.le_of_ble_eq_true rfl) ⟨Nat.le_refl 0, Nat.le_refl 0⟩ (fun r2 _ => ?_)
    refine at_if_ne (tgt := 22) hC dX10_chest_15 rfl (fun _ => ?_) (fun _ => ?_)
    · refine at_aload_n (j := 0) hC rfl rfl dX10_chest_22 ?_
      refine gf_X10_67 hC dX10_chest_23 ?_
      refine at_iload_n (j := 2) hC rfl rfl dX10_chest_26 ?_
      refine at_callVU hC hR lk_X10_174 (c_Cn_look τ p1) dX10_chest_27 recX2 rfl rfl ⟨by decide, by decide⟩ (Nat.le_of_ble_eq_true rfl) ⟨Nat.le_refl 0, Nat.le_refl 0⟩ (fun r3 r3s _ => ?_)
      refine at_aload_n (j := 0) hC rfl rfl dX10_chest_30 ?_
      refine gf_X10_67 hC dX10_chest_31 ?_
      refine at_iload_n (j := 1) hC rfl rfl dX10_chest_34 ?_
      refine at_callVJ hC hR lk_X10_306 (c_Cn_chestBehind r3s p0) dX10_chest_35 recX2 rfl rfl ⟨by decide, by decide⟩ (Nat.le_of_ble_eq_true rfl) ⟨Nat.le_refl 0, Nat.le_refl 0⟩ (fun r4 r4s _ => ?_)
      exact at_lret (F := eqA ad) (ra := rJ) hC dX10_chest_38 rfl (Nat.le_refl 0) (Nat.le_refl 0) rfl
    · refine at_ldc2 hC kl_X10_274 dX10_chest_18 ?_
      exact at_lret (F := eqA ad) (ra := rJ) hC dX10_chest_21 rfl (Nat.le_refl 0) (Nat.le_refl 0) rfl
theorem dX10_loan_0 : decode cX10_loan 0 = .ok (.iload_n 1, 1) := by decide +kernel
theorem dX10_loan_1 : decode cX10_loan 1 = .ok (.iconst 1, 1) := by decide +kernel
theorem dX10_loan_2 : decode cX10_loan 2 = .ok (.if_icmp .lt 17, 3) := by decide +kernel
theorem dX10_loan_5 : decode cX10_loan 5 = .ok (.iload_n 1, 1) := by decide +kernel
theorem dX10_loan_6 : decode cX10_loan 6 = .ok (.sipush 9999, 3) := by decide +kernel
theorem dX10_loan_9 : decode cX10_loan 9 = .ok (.if_icmp .gt 10, 3) := by decide +kernel
theorem dX10_loan_12 : decode cX10_loan 12 = .ok (.iload_n 2, 1) := by decide +kernel
theorem dX10_loan_13 : decode cX10_loan 13 = .ok (.invokestatic 271, 3) := by decide +kernel
theorem dX10_loan_16 : decode cX10_loan 16 = .ok (.ifCond .ne 6, 3) := by decide +kernel
theorem dX10_loan_19 : decode cX10_loan 19 = .ok (.bipush (-2), 2) := by decide +kernel
theorem dX10_loan_21 : decode cX10_loan 21 = .ok (.ireturn, 1) := by decide +kernel
theorem dX10_loan_22 : decode cX10_loan 22 = .ok (.iload_n 3, 1) := by decide +kernel
theorem dX10_loan_23 : decode cX10_loan 23 = .ok (.iconst 1, 1) := by decide +kernel
theorem dX10_loan_24 : decode cX10_loan 24 = .ok (.if_icmp .lt 21, 3) := by decide +kernel
theorem dX10_loan_27 : decode cX10_loan 27 = .ok (.iload_n 3, 1) := by decide +kernel
theorem dX10_loan_28 : decode cX10_loan 28 = .ok (.bipush 30, 2) := by decide +kernel
theorem dX10_loan_30 : decode cX10_loan 30 = .ok (.if_icmp .gt 15, 3) := by decide +kernel
theorem dX10_loan_33 : decode cX10_loan 33 = .ok (.iload 4, 2) := by decide +kernel
theorem dX10_loan_35 : decode cX10_loan 35 = .ok (.ifCond .lt 10, 3) := by decide +kernel
theorem dX10_loan_38 : decode cX10_loan 38 = .ok (.iload 4, 2) := by decide +kernel
theorem dX10_loan_40 : decode cX10_loan 40 = .ok (.bipush 20, 2) := by decide +kernel
theorem dX10_loan_42 : decode cX10_loan 42 = .ok (.if_icmp .le 6, 3) := by decide +kernel
theorem dX10_loan_45 : decode cX10_loan 45 = .ok (.bipush (-2), 2) := by decide +kernel
theorem dX10_loan_47 : decode cX10_loan 47 = .ok (.ireturn, 1) := by decide +kernel
theorem dX10_loan_48 : decode cX10_loan 48 = .ok (.aload_n 0, 1) := by decide +kernel
theorem dX10_loan_49 : decode cX10_loan 49 = .ok (.getfield 44, 3) := by decide +kernel
theorem dX10_loan_52 : decode cX10_loan 52 = .ok (.getfield 309, 3) := by decide +kernel
theorem dX10_loan_55 : decode cX10_loan 55 = .ok (.bipush 12, 2) := by decide +kernel
theorem dX10_loan_57 : decode cX10_loan 57 = .ok (.if_icmp .lt 6, 3) := by decide +kernel
theorem dX10_loan_60 : decode cX10_loan 60 = .ok (.bipush (-4), 2) := by decide +kernel
theorem dX10_loan_62 : decode cX10_loan 62 = .ok (.ireturn, 1) := by decide +kernel
theorem dX10_loan_63 : decode cX10_loan 63 = .ok (.aload_n 0, 1) := by decide +kernel
theorem dX10_loan_64 : decode cX10_loan 64 = .ok (.getfield 44, 3) := by decide +kernel
theorem dX10_loan_67 : decode cX10_loan 67 = .ok (.iload_n 1, 1) := by decide +kernel
theorem dX10_loan_68 : decode cX10_loan 68 = .ok (.iload_n 2, 1) := by decide +kernel
theorem dX10_loan_69 : decode cX10_loan 69 = .ok (.iload_n 3, 1) := by decide +kernel
theorem dX10_loan_70 : decode cX10_loan 70 = .ok (.iload 4, 2) := by decide +kernel
theorem dX10_loan_72 : decode cX10_loan 72 = .ok (.invokevirtual 310, 3) := by decide +kernel
theorem dX10_loan_75 : decode cX10_loan 75 = .ok (.ireturn, 1) := by decide +kernel
set_option maxRecDepth 100000 in
theorem c_W_loan (τ : XS) (p0 : Int32) (p1 : Int32) (p2 : Int32) (p3 : Int32) : Ct z (wX z σ) rI eqA yX10_loan cX10_loan 5 (some .int) 2 0 0 [.ref 36, .int p0, .int p1, .int p2, .int p3] τ (W_loan τ p0 p1 p2 p3) := by
  refine Ct.of (by decide) (Nat.le_of_ble_eq_true rfl) (fun ad x hC hR _ => ?_)
  show AT z x 5 (wX z σ) rI (eqA ad) 0 0 0 0 ad 0 [(0, .ref 36), (1, .int p0), (2, .int p1), (3, .int p2), (4, .int p3)] [] τ (W_loan τ p0 p1 p2 p3)
  unfold W_loan
  refine at_iload_n (j := 1) hC rfl rfl dX10_loan_0 ?_
  refine at_iconst hC ic_1 dX10_loan_1 ?_
  refine at_icmp_lt (tgt := 19) hC dX10_loan_2 rfl (fun _ => ?_) (fun _ => ?_)
  · refine at_bipush hC bi_m2 dX10_loan_19 ?_
    exact at_iret (F := eqA ad) (ra := rI) hC dX10_loan_21 rfl (Nat.le_refl 0) (Nat.le_refl 0) rfl
  · refine at_iload_n (j := 1) hC rfl rfl dX10_loan_5 ?_
    refine at_sipush hC si_9999 dX10_loan_6 ?_
    refine at_icmp_gt (tgt := 19) hC dX10_loan_9 rfl (fun _ => ?_) (fun _ => ?_)
    · refine at_bipush hC bi_m2 dX10_loan_19 ?_
      exact at_iret (F := eqA ad) (ra := rI) hC dX10_loan_21 rfl (Nat.le_refl 0) (Nat.le_refl 0) rfl
    · refine at_iload_n (j := 2) hC rfl rfl dX10_loan_12 ?_
      refine at_callSpI hC hR lk_X10_271 (c_W_isYear τ p1) dX10_loan_13 rfl rfl ⟨by decide, by decide⟩ (Nat.le_of_ble_eq_true rfl) ⟨Nat.le_refl 0, Nat.le_refl 0⟩ (fun r1 _ => ?_)
      refine at_if_ne (tgt := 22) hC dX10_loan_16 rfl (fun _ => ?_) (fun _ => ?_)
      · refine at_iload_n (j := 3) hC rfl rfl dX10_loan_22 ?_
        refine at_iconst hC ic_1 dX10_loan_23 ?_
        refine at_icmp_lt (tgt := 45) hC dX10_loan_24 rfl (fun _ => ?_) (fun _ => ?_)
        · refine at_bipush hC bi_m2 dX10_loan_45 ?_
          exact at_iret (F := eqA ad) (ra := rI) hC dX10_loan_47 rfl (Nat.le_refl 0) (Nat.le_refl 0) rfl
        · refine at_iload_n (j := 3) hC rfl rfl dX10_loan_27 ?_
          refine at_bipush hC bi_30 dX10_loan_28 ?_
          refine at_icmp_gt (tgt := 45) hC dX10_loan_30 rfl (fun _ => ?_) (fun _ => ?_)
          · refine at_bipush hC bi_m2 dX10_loan_45 ?_
            exact at_iret (F := eqA ad) (ra := rI) hC dX10_loan_47 rfl (Nat.le_refl 0) (Nat.le_refl 0) rfl
          · refine at_iload (j := 4) hC rfl dX10_loan_33 ?_
            refine at_if_lt (tgt := 45) hC dX10_loan_35 rfl (fun _ => ?_) (fun _ => ?_)
            · refine at_bipush hC bi_m2 dX10_loan_45 ?_
              exact at_iret (F := eqA ad) (ra := rI) hC dX10_loan_47 rfl (Nat.le_refl 0) (Nat.le_refl 0) rfl
            · refine at_iload (j := 4) hC rfl dX10_loan_38 ?_
              refine at_bipush hC bi_20 dX10_loan_40 ?_
              refine at_icmp_le (tgt := 48) hC dX10_loan_42 rfl (fun _ => ?_) (fun _ => ?_)
              · refine at_aload_n (j := 0) hC rfl rfl dX10_loan_48 ?_
                refine gf_X10_44 hC dX10_loan_49 ?_
                refine gf_X10_309 hC dX10_loan_52 ?_
                refine at_bipush hC bi_12 dX10_loan_55 ?_
                refine at_icmp_lt (tgt := 63) hC dX10_loan_57 rfl (fun _ => ?_) (fun _ => ?_)
                · refine at_aload_n (j := 0) hC rfl rfl dX10_loan_63 ?_
                  refine gf_X10_44 hC dX10_loan_64 ?_
                  refine at_iload_n (j := 1) hC rfl rfl dX10_loan_67 ?_
                  refine at_iload_n (j := 2) hC rfl rfl dX10_loan_68 ?_
                  refine at_iload_n (j := 3) hC rfl rfl dX10_loan_69 ?_
                  refine at_iload (j := 4) hC rfl dX10_loan_70 ?_
                  refine at_callVI hC hR lk_X10_310 (c_Ln_give τ p0 p1 p2 p3) dX10_loan_72 recX5 rfl rfl ⟨by decide, by decide⟩ (Nat.le_of_ble_eq_true rfl) ⟨Nat.le_refl 0, Nat.le_refl 0⟩ (fun r2 r2s _ => ?_)
                  exact at_iret (F := eqA ad) (ra := rI) hC dX10_loan_75 rfl (Nat.le_refl 0) (Nat.le_refl 0) rfl
                · refine at_bipush hC bi_m4 dX10_loan_60 ?_
                  exact at_iret (F := eqA ad) (ra := rI) hC dX10_loan_62 rfl (Nat.le_refl 0) (Nat.le_refl 0) rfl
              · refine at_bipush hC bi_m2 dX10_loan_45 ?_
                exact at_iret (F := eqA ad) (ra := rI) hC dX10_loan_47 rfl (Nat.le_refl 0) (Nat.le_refl 0) rfl
      · refine at_bipush hC bi_m2 dX10_loan_19 ?_
        exact at_iret (F := eqA ad) (ra := rI) hC dX10_loan_21 rfl (Nat.le_refl 0) (Nat.le_refl 0) rfl
theorem dX10_bad_0 : decode cX10_bad 0 = .ok (.iload_n 1, 1) := by decide +kernel
theorem dX10_bad_1 : decode cX10_bad 1 = .ok (.ifCond .lt 14, 3) := by decide +kernel
theorem dX10_bad_4 : decode cX10_bad 4 = .ok (.iload_n 1, 1) := by decide +kernel
theorem dX10_bad_5 : decode cX10_bad 5 = .ok (.aload_n 0, 1) := by decide +kernel
theorem dX10_bad_6 : decode cX10_bad 6 = .ok (.getfield 44, 3) := by decide +kernel
theorem dX10_bad_9 : decode cX10_bad 9 = .ok (.getfield 309, 3) := by decide +kernel
theorem dX10_bad_12 : decode cX10_bad 12 = .ok (.if_icmp .lt 5, 3) := by decide +kernel
theorem dX10_bad_15 : decode cX10_bad 15 = .ok (.iconst (-1), 1) := by decide +kernel
theorem dX10_bad_16 : decode cX10_bad 16 = .ok (.ireturn, 1) := by decide +kernel
theorem dX10_bad_17 : decode cX10_bad 17 = .ok (.iload_n 2, 1) := by decide +kernel
theorem dX10_bad_18 : decode cX10_bad 18 = .ok (.invokestatic 271, 3) := by decide +kernel
theorem dX10_bad_21 : decode cX10_bad 21 = .ok (.ifCond .ne 6, 3) := by decide +kernel
theorem dX10_bad_24 : decode cX10_bad 24 = .ok (.bipush (-2), 2) := by decide +kernel
theorem dX10_bad_26 : decode cX10_bad 26 = .ok (.ireturn, 1) := by decide +kernel
theorem dX10_bad_27 : decode cX10_bad 27 = .ok (.aload_n 0, 1) := by decide +kernel
theorem dX10_bad_28 : decode cX10_bad 28 = .ok (.getfield 44, 3) := by decide +kernel
theorem dX10_bad_31 : decode cX10_bad 31 = .ok (.getfield 313, 3) := by decide +kernel
theorem dX10_bad_34 : decode cX10_bad 34 = .ok (.iload_n 1, 1) := by decide +kernel
theorem dX10_bad_35 : decode cX10_bad 35 = .ok (.iaload, 1) := by decide +kernel
theorem dX10_bad_36 : decode cX10_bad 36 = .ok (.bipush 100, 2) := by decide +kernel
theorem dX10_bad_38 : decode cX10_bad 38 = .ok (.if_icmp .ne 7, 3) := by decide +kernel
theorem dX10_bad_41 : decode cX10_bad 41 = .ok (.iconst 1, 1) := by decide +kernel
theorem dX10_bad_42 : decode cX10_bad 42 = .ok (.goto 4, 3) := by decide +kernel
theorem dX10_bad_45 : decode cX10_bad 45 = .ok (.iconst 0, 1) := by decide +kernel
theorem dX10_bad_46 : decode cX10_bad 46 = .ok (.istore_n 3, 1) := by decide +kernel
theorem dX10_bad_47 : decode cX10_bad 47 = .ok (.aload_n 0, 1) := by decide +kernel
theorem dX10_bad_48 : decode cX10_bad 48 = .ok (.getfield 44, 3) := by decide +kernel
theorem dX10_bad_51 : decode cX10_bad 51 = .ok (.getfield 313, 3) := by decide +kernel
theorem dX10_bad_54 : decode cX10_bad 54 = .ok (.iload_n 1, 1) := by decide +kernel
theorem dX10_bad_55 : decode cX10_bad 55 = .ok (.aload_n 0, 1) := by decide +kernel
theorem dX10_bad_56 : decode cX10_bad 56 = .ok (.getfield 44, 3) := by decide +kernel
theorem dX10_bad_59 : decode cX10_bad 59 = .ok (.getfield 313, 3) := by decide +kernel
theorem dX10_bad_62 : decode cX10_bad 62 = .ok (.iload_n 1, 1) := by decide +kernel
theorem dX10_bad_63 : decode cX10_bad 63 = .ok (.iaload, 1) := by decide +kernel
theorem dX10_bad_64 : decode cX10_bad 64 = .ok (.iload_n 2, 1) := by decide +kernel
theorem dX10_bad_65 : decode cX10_bad 65 = .ok (.invokestatic 247, 3) := by decide +kernel
theorem dX10_bad_68 : decode cX10_bad 68 = .ok (.iastore, 1) := by decide +kernel
theorem dX10_bad_69 : decode cX10_bad 69 = .ok (.iload_n 3, 1) := by decide +kernel
theorem dX10_bad_70 : decode cX10_bad 70 = .ok (.ifCond .eq 7, 3) := by decide +kernel
theorem dX10_bad_73 : decode cX10_bad 73 = .ok (.iconst 1, 1) := by decide +kernel
theorem dX10_bad_74 : decode cX10_bad 74 = .ok (.goto 4, 3) := by decide +kernel
theorem dX10_bad_77 : decode cX10_bad 77 = .ok (.iconst 0, 1) := by decide +kernel
theorem dX10_bad_78 : decode cX10_bad 78 = .ok (.ireturn, 1) := by decide +kernel
set_option maxRecDepth 100000 in
theorem t_W_bad_J46 (hC : CX z ad x cX10_bad RX10 4 (some .int)) (hR : x.2.2.1 = rmk 5 0 0) (τ : XS) (a1 : Int32) (a2 : Int32) (s0 : Int32) : AT z x 4 (wX z σ) rI (eqA ad) 0 0 0 0 ad 46 [(0, .ref 36), (1, .int a1), (2, .int a2)] [.int s0] τ (W_bad_J46 τ a1 a2 s0) := by
  unfold W_bad_J46
  refine at_istore_n (lv' := [(3, .int s0), (0, .ref 36), (1, .int a1), (2, .int a2)]) hC rfl dX10_bad_46 (by decide) rfl ?_
  refine at_aload_n (j := 1) hC rfl rfl dX10_bad_47 ?_
  refine gf_X10_44 hC dX10_bad_48 ?_
  refine gf_X10_313 hC dX10_bad_51 ?_
  refine at_iload_n (j := 2) hC rfl rfl dX10_bad_54 ?_
  refine at_aload_n (j := 1) hC rfl rfl dX10_bad_55 ?_
  refine gf_X10_44 hC dX10_bad_56 ?_
  refine gf_X10_313 hC dX10_bad_59 ?_
  refine at_iload_n (j := 2) hC rfl rfl dX10_bad_62 ?_
  refine at_iald hC 67 dX10_bad_63 cl_67 (fun v3 => ?_)
  refine at_iload_n (j := 3) hC rfl rfl dX10_bad_64 ?_
  refine at_mnI hC hR lkm_X10_247 dX10_bad_65 (by decide) (Nat.le_of_ble_eq_true rfl) ⟨Nat.le_refl 0, Nat.le_refl 0⟩ ?_
  refine at_iast hC 67 dX10_bad_68 cl_67 st_67 ?_
  refine at_iload_n (j := 0) hC rfl rfl dX10_bad_69 ?_
  refine at_if_eq (tgt := 77) hC dX10_bad_70 rfl (fun _ => ?_) (fun _ => ?_)
  · refine at_iconst hC ic_0 dX10_bad_77 ?_
    exact at_iret (F := eqA ad) (ra := rI) hC dX10_bad_78 rfl (Nat.le_refl 0) (Nat.le_refl 0) rfl
  · refine at_iconst hC ic_1 dX10_bad_73 ?_
    refine at_goto (tgt := 78) hC dX10_bad_74 rfl ?_
    exact at_iret (F := eqA ad) (ra := rI) hC dX10_bad_78 rfl (Nat.le_refl 0) (Nat.le_refl 0) rfl
set_option maxRecDepth 100000 in
theorem c_W_bad (τ : XS) (p0 : Int32) (p1 : Int32) : Ct z (wX z σ) rI eqA yX10_bad cX10_bad 4 (some .int) 5 0 0 [.ref 36, .int p0, .int p1] τ (W_bad τ p0 p1) := by
  refine Ct.of (by decide) (Nat.le_of_ble_eq_true rfl) (fun ad x hC hR _ => ?_)
  show AT z x 4 (wX z σ) rI (eqA ad) 0 0 0 0 ad 0 [(0, .ref 36), (1, .int p0), (2, .int p1)] [] τ (W_bad τ p0 p1)
  unfold W_bad
  refine at_iload_n (j := 1) hC rfl rfl dX10_bad_0 ?_
  refine at_if_lt (tgt := 15) hC dX10_bad_1 rfl (fun _ => ?_) (fun _ => ?_)
  · refine at_iconst hC ic_m1 dX10_bad_15 ?_
    exact at_iret (F := eqA ad) (ra := rI) hC dX10_bad_16 rfl (Nat.le_refl 0) (Nat.le_refl 0) rfl
  · refine at_iload_n (j := 1) hC rfl rfl dX10_bad_4 ?_
    refine at_aload_n (j := 0) hC rfl rfl dX10_bad_5 ?_
    refine gf_X10_44 hC dX10_bad_6 ?_
    refine gf_X10_309 hC dX10_bad_9 ?_
    refine at_icmp_lt (tgt := 17) hC dX10_bad_12 rfl (fun _ => ?_) (fun _ => ?_)
    · refine at_iload_n (j := 2) hC rfl rfl dX10_bad_17 ?_
      refine at_callSpI hC hR lk_X10_271 (c_W_isYear τ p1) dX10_bad_18 rfl rfl ⟨by decide, by decide⟩ (Nat.le_of_ble_eq_true rfl) ⟨Nat.le_refl 0, Nat.le_refl 0⟩ (fun r1 _ => ?_)
      refine at_if_ne (tgt := 27) hC dX10_bad_21 rfl (fun _ => ?_) (fun _ => ?_)
      · refine at_aload_n (j := 0) hC rfl rfl dX10_bad_27 ?_
        refine gf_X10_44 hC dX10_bad_28 ?_
        refine gf_X10_313 hC dX10_bad_31 ?_
        refine at_iload_n (j := 1) hC rfl rfl dX10_bad_34 ?_
        refine at_iald hC 67 dX10_bad_35 cl_67 (fun v2 => ?_)
        refine at_bipush hC bi_100 dX10_bad_36 ?_
        refine at_icmp_ne (tgt := 45) hC dX10_bad_38 rfl (fun _ => ?_) (fun _ => ?_)
        · refine at_iconst hC ic_0 dX10_bad_45 ?_
          exact t_W_bad_J46 hC hR τ p0 p1 0
        · refine at_iconst hC ic_1 dX10_bad_41 ?_
          refine at_goto (tgt := 46) hC dX10_bad_42 rfl ?_
          exact t_W_bad_J46 hC hR τ p0 p1 1
      · refine at_bipush hC bi_m2 dX10_bad_24 ?_
        exact at_iret (F := eqA ad) (ra := rI) hC dX10_bad_26 rfl (Nat.le_refl 0) (Nat.le_refl 0) rfl
    · refine at_iconst hC ic_m1 dX10_bad_15 ?_
      exact at_iret (F := eqA ad) (ra := rI) hC dX10_bad_16 rfl (Nat.le_refl 0) (Nat.le_refl 0) rfl
theorem dX10_due_0 : decode cX10_due 0 = .ok (.iload_n 1, 1) := by decide +kernel
theorem dX10_due_1 : decode cX10_due 1 = .ok (.ifCond .lt 21, 3) := by decide +kernel
theorem dX10_due_4 : decode cX10_due 4 = .ok (.iload_n 1, 1) := by decide +kernel
theorem dX10_due_5 : decode cX10_due 5 = .ok (.aload_n 0, 1) := by decide +kernel
theorem dX10_due_6 : decode cX10_due 6 = .ok (.getfield 44, 3) := by decide +kernel
theorem dX10_due_9 : decode cX10_due 9 = .ok (.getfield 309, 3) := by decide +kernel
theorem dX10_due_12 : decode cX10_due 12 = .ok (.if_icmp .ge 10, 3) := by decide +kernel
theorem dX10_due_15 : decode cX10_due 15 = .ok (.iload_n 2, 1) := by decide +kernel
theorem dX10_due_16 : decode cX10_due 16 = .ok (.invokestatic 271, 3) := by decide +kernel
theorem dX10_due_19 : decode cX10_due 19 = .ok (.ifCond .ne 7, 3) := by decide +kernel
theorem dX10_due_22 : decode cX10_due 22 = .ok (.ldc2_w 274, 3) := by decide +kernel
theorem dX10_due_25 : decode cX10_due 25 = .ok (.lreturn, 1) := by decide +kernel
theorem dX10_due_26 : decode cX10_due 26 = .ok (.aload_n 0, 1) := by decide +kernel
theorem dX10_due_27 : decode cX10_due 27 = .ok (.getfield 44, 3) := by decide +kernel
theorem dX10_due_30 : decode cX10_due 30 = .ok (.iload_n 1, 1) := by decide +kernel
theorem dX10_due_31 : decode cX10_due 31 = .ok (.iload_n 2, 1) := by decide +kernel
theorem dX10_due_32 : decode cX10_due 32 = .ok (.invokevirtual 316, 3) := by decide +kernel
theorem dX10_due_35 : decode cX10_due 35 = .ok (.lreturn, 1) := by decide +kernel
set_option maxRecDepth 100000 in
theorem c_W_due (τ : XS) (p0 : Int32) (p1 : Int32) : Ct z (wX z σ) rJ eqA yX10_due cX10_due 3 (some .long) 2 0 0 [.ref 36, .int p0, .int p1] τ ((W_due τ p0 p1).map fun r => (r, τ)) := by
  refine Ct.of (by decide) (Nat.le_of_ble_eq_true rfl) (fun ad x hC hR _ => ?_)
  show AT z x 3 (wX z σ) rJ (eqA ad) 0 0 0 0 ad 0 [(0, .ref 36), (1, .int p0), (2, .int p1)] [] τ ((W_due τ p0 p1).map fun r => (r, τ))
  unfold W_due
  refine at_iload_n (j := 1) hC rfl rfl dX10_due_0 ?_
  refine ap_if_lt (tgt := 22) hC dX10_due_1 rfl (fun _ => ?_) (fun _ => ?_)
  · refine at_ldc2 hC kl_X10_274 dX10_due_22 ?_
    exact at_lret (F := eqA ad) (ra := rJ) hC dX10_due_25 rfl (Nat.le_refl 0) (Nat.le_refl 0) rfl
  · refine at_iload_n (j := 1) hC rfl rfl dX10_due_4 ?_
    refine at_aload_n (j := 0) hC rfl rfl dX10_due_5 ?_
    refine gf_X10_44 hC dX10_due_6 ?_
    refine gf_X10_309 hC dX10_due_9 ?_
    refine ap_icmp_ge (tgt := 22) hC dX10_due_12 rfl (fun _ => ?_) (fun _ => ?_)
    · refine at_ldc2 hC kl_X10_274 dX10_due_22 ?_
      exact at_lret (F := eqA ad) (ra := rJ) hC dX10_due_25 rfl (Nat.le_refl 0) (Nat.le_refl 0) rfl
    · refine at_iload_n (j := 2) hC rfl rfl dX10_due_15 ?_
      refine ap_callSI hC hR lk_X10_271 (c_W_isYear τ p1) dX10_due_16 rfl rfl ⟨by decide, by decide⟩ (Nat.le_of_ble_eq_true rfl) ⟨Nat.le_refl 0, Nat.le_refl 0⟩ (fun r1 _ => ?_)
      refine ap_if_ne (tgt := 26) hC dX10_due_19 rfl (fun _ => ?_) (fun _ => ?_)
      · refine at_aload_n (j := 0) hC rfl rfl dX10_due_26 ?_
        refine gf_X10_44 hC dX10_due_27 ?_
        refine at_iload_n (j := 1) hC rfl rfl dX10_due_30 ?_
        refine at_iload_n (j := 2) hC rfl rfl dX10_due_31 ?_
        refine ap_callVJ hC hR lk_X10_316 (c_Ln_comesOf τ p0 p1) dX10_due_32 recX5 rfl rfl ⟨by decide, by decide⟩ (Nat.le_of_ble_eq_true rfl) ⟨Nat.le_refl 0, Nat.le_refl 0⟩ (fun r2 _ => ?_)
        exact at_lret (F := eqA ad) (ra := rJ) hC dX10_due_35 rfl (Nat.le_refl 0) (Nat.le_refl 0) rfl
      · refine at_ldc2 hC kl_X10_274 dX10_due_22 ?_
        exact at_lret (F := eqA ad) (ra := rJ) hC dX10_due_25 rfl (Nat.le_refl 0) (Nat.le_refl 0) rfl
theorem dX10_table_0 : decode cX10_table 0 = .ok (.iload_n 1, 1) := by decide +kernel
theorem dX10_table_1 : decode cX10_table 1 = .ok (.ifCond .lt 9, 3) := by decide +kernel
theorem dX10_table_4 : decode cX10_table 4 = .ok (.iload_n 1, 1) := by decide +kernel
theorem dX10_table_5 : decode cX10_table 5 = .ok (.bipush 99, 2) := by decide +kernel
theorem dX10_table_7 : decode cX10_table 7 = .ok (.if_icmp .lt 5, 3) := by decide +kernel
theorem dX10_table_10 : decode cX10_table 10 = .ok (.iconst (-1), 1) := by decide +kernel
theorem dX10_table_11 : decode cX10_table 11 = .ok (.ireturn, 1) := by decide +kernel
theorem dX10_table_12 : decode cX10_table 12 = .ok (.iload_n 2, 1) := by decide +kernel
theorem dX10_table_13 : decode cX10_table 13 = .ok (.ifCond .lt 10, 3) := by decide +kernel
theorem dX10_table_16 : decode cX10_table 16 = .ok (.iload_n 2, 1) := by decide +kernel
theorem dX10_table_17 : decode cX10_table 17 = .ok (.sipush 1000, 3) := by decide +kernel
theorem dX10_table_20 : decode cX10_table 20 = .ok (.if_icmp .le 6, 3) := by decide +kernel
theorem dX10_table_23 : decode cX10_table 23 = .ok (.bipush (-2), 2) := by decide +kernel
theorem dX10_table_25 : decode cX10_table 25 = .ok (.ireturn, 1) := by decide +kernel
theorem dX10_table_26 : decode cX10_table 26 = .ok (.aload_n 0, 1) := by decide +kernel
theorem dX10_table_27 : decode cX10_table 27 = .ok (.getfield 51, 3) := by decide +kernel
theorem dX10_table_30 : decode cX10_table 30 = .ok (.getfield 319, 3) := by decide +kernel
theorem dX10_table_33 : decode cX10_table 33 = .ok (.iload_n 1, 1) := by decide +kernel
theorem dX10_table_34 : decode cX10_table 34 = .ok (.iaload, 1) := by decide +kernel
theorem dX10_table_35 : decode cX10_table 35 = .ok (.istore_n 3, 1) := by decide +kernel
theorem dX10_table_36 : decode cX10_table 36 = .ok (.aload_n 0, 1) := by decide +kernel
theorem dX10_table_37 : decode cX10_table 37 = .ok (.getfield 51, 3) := by decide +kernel
theorem dX10_table_40 : decode cX10_table 40 = .ok (.getfield 319, 3) := by decide +kernel
theorem dX10_table_43 : decode cX10_table 43 = .ok (.iload_n 1, 1) := by decide +kernel
theorem dX10_table_44 : decode cX10_table 44 = .ok (.iload_n 2, 1) := by decide +kernel
theorem dX10_table_45 : decode cX10_table 45 = .ok (.iastore, 1) := by decide +kernel
theorem dX10_table_46 : decode cX10_table 46 = .ok (.iload_n 3, 1) := by decide +kernel
theorem dX10_table_47 : decode cX10_table 47 = .ok (.ireturn, 1) := by decide +kernel
set_option maxRecDepth 100000 in
theorem c_W_table (τ : XS) (p0 : Int32) (p1 : Int32) : Ct z (wX z σ) rI eqA yX10_table cX10_table 4 (some .int) 1 0 0 [.ref 36, .int p0, .int p1] τ (W_table τ p0 p1) := by
  refine Ct.of (by decide) (Nat.le_of_ble_eq_true rfl) (fun ad x hC hR _ => ?_)
  show AT z x 4 (wX z σ) rI (eqA ad) 0 0 0 0 ad 0 [(0, .ref 36), (1, .int p0), (2, .int p1)] [] τ (W_table τ p0 p1)
  unfold W_table
  refine at_iload_n (j := 1) hC rfl rfl dX10_table_0 ?_
  refine at_if_lt (tgt := 10) hC dX10_table_1 rfl (fun _ => ?_) (fun _ => ?_)
  · refine at_iconst hC ic_m1 dX10_table_10 ?_
    exact at_iret (F := eqA ad) (ra := rI) hC dX10_table_11 rfl (Nat.le_refl 0) (Nat.le_refl 0) rfl
  · refine at_iload_n (j := 1) hC rfl rfl dX10_table_4 ?_
    refine at_bipush hC bi_99 dX10_table_5 ?_
    refine at_icmp_lt (tgt := 12) hC dX10_table_7 rfl (fun _ => ?_) (fun _ => ?_)
    · refine at_iload_n (j := 2) hC rfl rfl dX10_table_12 ?_
      refine at_if_lt (tgt := 23) hC dX10_table_13 rfl (fun _ => ?_) (fun _ => ?_)
      · refine at_bipush hC bi_m2 dX10_table_23 ?_
        exact at_iret (F := eqA ad) (ra := rI) hC dX10_table_25 rfl (Nat.le_refl 0) (Nat.le_refl 0) rfl
      · refine at_iload_n (j := 2) hC rfl rfl dX10_table_16 ?_
        refine at_sipush hC si_1000 dX10_table_17 ?_
        refine at_icmp_le (tgt := 26) hC dX10_table_20 rfl (fun _ => ?_) (fun _ => ?_)
        · refine at_aload_n (j := 0) hC rfl rfl dX10_table_26 ?_
          refine gf_X10_51 hC dX10_table_27 ?_
          refine gf_X10_319 hC dX10_table_30 ?_
          refine at_iload_n (j := 1) hC rfl rfl dX10_table_33 ?_
          refine at_iald hC 69 dX10_table_34 cl_69 (fun v1 => ?_)
          refine at_istore_n (lv' := [(3, .int v1), (0, .ref 36), (1, .int p0), (2, .int p1)]) hC rfl dX10_table_35 (by decide) rfl ?_
          refine at_aload_n (j := 1) hC rfl rfl dX10_table_36 ?_
          refine gf_X10_51 hC dX10_table_37 ?_
          refine gf_X10_319 hC dX10_table_40 ?_
          refine at_iload_n (j := 2) hC rfl rfl dX10_table_43 ?_
          refine at_iload_n (j := 3) hC rfl rfl dX10_table_44 ?_
          refine at_iast hC 69 dX10_table_45 cl_69 st_69 ?_
          refine at_iload_n (j := 0) hC rfl rfl dX10_table_46 ?_
          exact at_iret (F := eqA ad) (ra := rI) hC dX10_table_47 rfl (Nat.le_refl 0) (Nat.le_refl 0) rfl
        · refine at_bipush hC bi_m2 dX10_table_23 ?_
          exact at_iret (F := eqA ad) (ra := rI) hC dX10_table_25 rfl (Nat.le_refl 0) (Nat.le_refl 0) rfl
    · refine at_iconst hC ic_m1 dX10_table_10 ?_
      exact at_iret (F := eqA ad) (ra := rI) hC dX10_table_11 rfl (Nat.le_refl 0) (Nat.le_refl 0) rfl
theorem dX10_isAge_0 : decode cX10_isAge 0 = .ok (.iload_n 0, 1) := by decide +kernel
theorem dX10_isAge_1 : decode cX10_isAge 1 = .ok (.ifCond .lt 13, 3) := by decide +kernel
theorem dX10_isAge_4 : decode cX10_isAge 4 = .ok (.iload_n 0, 1) := by decide +kernel
theorem dX10_isAge_5 : decode cX10_isAge 5 = .ok (.bipush 100, 2) := by decide +kernel
theorem dX10_isAge_7 : decode cX10_isAge 7 = .ok (.if_icmp .ge 7, 3) := by decide +kernel
theorem dX10_isAge_10 : decode cX10_isAge 10 = .ok (.iconst 1, 1) := by decide +kernel
theorem dX10_isAge_11 : decode cX10_isAge 11 = .ok (.goto 4, 3) := by decide +kernel
theorem dX10_isAge_14 : decode cX10_isAge 14 = .ok (.iconst 0, 1) := by decide +kernel
theorem dX10_isAge_15 : decode cX10_isAge 15 = .ok (.ireturn, 1) := by decide +kernel
set_option maxRecDepth 100000 in
theorem c_W_isAge (τ : XS) (p0 : Int32) : Ct z (wX z σ) rI eqA yX10_isAge cX10_isAge 1 (some .boolean) 1 0 0 [.int p0] τ ((W_isAge τ p0).map fun r => (r, τ)) := by
  refine Ct.of (by decide) (Nat.le_of_ble_eq_true rfl) (fun ad x hC hR _ => ?_)
  show AT z x 1 (wX z σ) rI (eqA ad) 0 0 0 0 ad 0 [(0, .int p0)] [] τ ((W_isAge τ p0).map fun r => (r, τ))
  unfold W_isAge
  refine at_iload_n (j := 0) hC rfl rfl dX10_isAge_0 ?_
  refine ap_if_lt (tgt := 14) hC dX10_isAge_1 rfl (fun _ => ?_) (fun _ => ?_)
  · refine at_iconst hC ic_0 dX10_isAge_14 ?_
    exact at_zret (F := eqA ad) (ra := rI) hC nb0 dX10_isAge_15 rfl (Nat.le_refl 0) (Nat.le_refl 0) rfl
  · refine at_iload_n (j := 0) hC rfl rfl dX10_isAge_4 ?_
    refine at_bipush hC bi_100 dX10_isAge_5 ?_
    refine ap_icmp_ge (tgt := 14) hC dX10_isAge_7 rfl (fun _ => ?_) (fun _ => ?_)
    · refine at_iconst hC ic_0 dX10_isAge_14 ?_
      exact at_zret (F := eqA ad) (ra := rI) hC nb0 dX10_isAge_15 rfl (Nat.le_refl 0) (Nat.le_refl 0) rfl
    · refine at_iconst hC ic_1 dX10_isAge_10 ?_
      refine at_goto (tgt := 15) hC dX10_isAge_11 rfl ?_
      exact at_zret (F := eqA ad) (ra := rI) hC nb1 dX10_isAge_15 rfl (Nat.le_refl 0) (Nat.le_refl 0) rfl
theorem dX10_own_0 : decode cX10_own 0 = .ok (.iload_n 1, 1) := by decide +kernel
theorem dX10_own_1 : decode cX10_own 1 = .ok (.invokestatic 322, 3) := by decide +kernel
theorem dX10_own_4 : decode cX10_own 4 = .ok (.ifCond .eq 25, 3) := by decide +kernel
theorem dX10_own_7 : decode cX10_own 7 = .ok (.aload_n 0, 1) := by decide +kernel
theorem dX10_own_8 : decode cX10_own 8 = .ok (.getfield 14, 3) := by decide +kernel
theorem dX10_own_11 : decode cX10_own 11 = .ok (.iload_n 3, 1) := by decide +kernel
theorem dX10_own_12 : decode cX10_own 12 = .ok (.invokevirtual 171, 3) := by decide +kernel
theorem dX10_own_15 : decode cX10_own 15 = .ok (.ifCond .eq 14, 3) := by decide +kernel
theorem dX10_own_18 : decode cX10_own 18 = .ok (.iload 4, 2) := by decide +kernel
theorem dX10_own_20 : decode cX10_own 20 = .ok (.ifCond .lt 9, 3) := by decide +kernel
theorem dX10_own_23 : decode cX10_own 23 = .ok (.iload 4, 2) := by decide +kernel
theorem dX10_own_25 : decode cX10_own 25 = .ok (.iconst 1, 1) := by decide +kernel
theorem dX10_own_26 : decode cX10_own 26 = .ok (.if_icmp .le 5, 3) := by decide +kernel
theorem dX10_own_29 : decode cX10_own 29 = .ok (.iconst (-1), 1) := by decide +kernel
theorem dX10_own_30 : decode cX10_own 30 = .ok (.ireturn, 1) := by decide +kernel
theorem dX10_own_31 : decode cX10_own 31 = .ok (.iload_n 2, 1) := by decide +kernel
theorem dX10_own_32 : decode cX10_own 32 = .ok (.invokestatic 93, 3) := by decide +kernel
theorem dX10_own_35 : decode cX10_own 35 = .ok (.ifCond .ne 6, 3) := by decide +kernel
theorem dX10_own_38 : decode cX10_own 38 = .ok (.bipush (-2), 2) := by decide +kernel
theorem dX10_own_40 : decode cX10_own 40 = .ok (.ireturn, 1) := by decide +kernel
theorem dX10_own_41 : decode cX10_own 41 = .ok (.aload_n 0, 1) := by decide +kernel
theorem dX10_own_42 : decode cX10_own 42 = .ok (.getfield 23, 3) := by decide +kernel
theorem dX10_own_45 : decode cX10_own 45 = .ok (.iload_n 3, 1) := by decide +kernel
theorem dX10_own_46 : decode cX10_own 46 = .ok (.invokevirtual 119, 3) := by decide +kernel
theorem dX10_own_49 : decode cX10_own 49 = .ok (.aload_n 0, 1) := by decide +kernel
theorem dX10_own_50 : decode cX10_own 50 = .ok (.getfield 23, 3) := by decide +kernel
theorem dX10_own_53 : decode cX10_own 53 = .ok (.iload_n 1, 1) := by decide +kernel
theorem dX10_own_54 : decode cX10_own 54 = .ok (.iload_n 2, 1) := by decide +kernel
theorem dX10_own_55 : decode cX10_own 55 = .ok (.invokevirtual 325, 3) := by decide +kernel
theorem dX10_own_58 : decode cX10_own 58 = .ok (.istore 5, 2) := by decide +kernel
theorem dX10_own_60 : decode cX10_own 60 = .ok (.iload 4, 2) := by decide +kernel
theorem dX10_own_62 : decode cX10_own 62 = .ok (.ifCond .ne 8, 3) := by decide +kernel
theorem dX10_own_65 : decode cX10_own 65 = .ok (.iload 5, 2) := by decide +kernel
theorem dX10_own_67 : decode cX10_own 67 = .ok (.goto 15, 3) := by decide +kernel
theorem dX10_own_70 : decode cX10_own 70 = .ok (.iload 5, 2) := by decide +kernel
theorem dX10_own_72 : decode cX10_own 72 = .ok (.aload_n 0, 1) := by decide +kernel
theorem dX10_own_73 : decode cX10_own 73 = .ok (.getfield 23, 3) := by decide +kernel
theorem dX10_own_76 : decode cX10_own 76 = .ok (.iload_n 1, 1) := by decide +kernel
theorem dX10_own_77 : decode cX10_own 77 = .ok (.iload_n 2, 1) := by decide +kernel
theorem dX10_own_78 : decode cX10_own 78 = .ok (.invokevirtual 328, 3) := by decide +kernel
theorem dX10_own_81 : decode cX10_own 81 = .ok (.iadd, 1) := by decide +kernel
theorem dX10_own_82 : decode cX10_own 82 = .ok (.ireturn, 1) := by decide +kernel
set_option maxRecDepth 100000 in
theorem c_W_own (τ : XS) (p0 : Int32) (p1 : Int32) (p2 : Int32) (p3 : Int32) : Ct z (wX z σ) rI eqA yX10_own cX10_own 6 (some .int) 7 0 0 [.ref 36, .int p0, .int p1, .int p2, .int p3] τ (W_own τ p0 p1 p2 p3) := by
  refine Ct.of (by decide) (Nat.le_of_ble_eq_true rfl) (fun ad x hC hR _ => ?_)
  show AT z x 6 (wX z σ) rI (eqA ad) 0 0 0 0 ad 0 [(0, .ref 36), (1, .int p0), (2, .int p1), (3, .int p2), (4, .int p3)] [] τ (W_own τ p0 p1 p2 p3)
  unfold W_own
  refine at_iload_n (j := 1) hC rfl rfl dX10_own_0 ?_
  refine at_callSpI hC hR lk_X10_322 (c_W_isAge τ p0) dX10_own_1 rfl rfl ⟨by decide, by decide⟩ (Nat.le_of_ble_eq_true rfl) ⟨Nat.le_refl 0, Nat.le_refl 0⟩ (fun r1 _ => ?_)
  refine at_if_eq (tgt := 29) hC dX10_own_4 rfl (fun _ => ?_) (fun _ => ?_)
  · refine at_iconst hC ic_m1 dX10_own_29 ?_
    exact at_iret (F := eqA ad) (ra := rI) hC dX10_own_30 rfl (Nat.le_refl 0) (Nat.le_refl 0) rfl
  · refine at_aload_n (j := 0) hC rfl rfl dX10_own_7 ?_
    refine gf_X10_14 hC dX10_own_8 ?_
    refine at_iload_n (j := 3) hC rfl rfl dX10_own_11 ?_
    refine at_callVpI hC hR lk_X10_171 (c_Bk_isReach τ p2) dX10_own_12 recX1 rfl rfl ⟨by decide, by decide⟩ (Nat.le_of_ble_eq_true rfl) ⟨Nat.le_refl 0, Nat.le_refl 0⟩ (fun r2 _ => ?_)
    refine at_if_eq (tgt := 29) hC dX10_own_15 rfl (fun _ => ?_) (fun _ => ?_)
    · refine at_iconst hC ic_m1 dX10_own_29 ?_
      exact at_iret (F := eqA ad) (ra := rI) hC dX10_own_30 rfl (Nat.le_refl 0) (Nat.le_refl 0) rfl
    · refine at_iload (j := 4) hC rfl dX10_own_18 ?_
      refine at_if_lt (tgt := 29) hC dX10_own_20 rfl (fun _ => ?_) (fun _ => ?_)
      · refine at_iconst hC ic_m1 dX10_own_29 ?_
        exact at_iret (F := eqA ad) (ra := rI) hC dX10_own_30 rfl (Nat.le_refl 0) (Nat.le_refl 0) rfl
      · refine at_iload (j := 4) hC rfl dX10_own_23 ?_
        refine at_iconst hC ic_1 dX10_own_25 ?_
        refine at_icmp_le (tgt := 31) hC dX10_own_26 rfl (fun _ => ?_) (fun _ => ?_)
        · refine at_iload_n (j := 2) hC rfl rfl dX10_own_31 ?_
          refine at_callSpI hC hR lk_X10_93 (c_W_isDay τ p1) dX10_own_32 rfl rfl ⟨by decide, by decide⟩ (Nat.le_of_ble_eq_true rfl) ⟨Nat.le_refl 0, Nat.le_refl 0⟩ (fun r3 _ => ?_)
          refine at_if_ne (tgt := 41) hC dX10_own_35 rfl (fun _ => ?_) (fun _ => ?_)
          · refine at_aload_n (j := 0) hC rfl rfl dX10_own_41 ?_
            refine gf_X10_23 hC dX10_own_42 ?_
            refine at_iload_n (j := 3) hC rfl rfl dX10_own_45 ?_
            refine at_callVU hC hR lk_X10_119 (c_Lv_readBook τ p2) dX10_own_46 recX4 rfl rfl ⟨by decide, by decide⟩ (Nat.le_of_ble_eq_true rfl) ⟨Nat.le_refl 0, Nat.le_refl 0⟩ (fun r4 r4s _ => ?_)
            refine at_aload_n (j := 0) hC rfl rfl dX10_own_49 ?_
            refine gf_X10_23 hC dX10_own_50 ?_
            refine at_iload_n (j := 1) hC rfl rfl dX10_own_53 ?_
            refine at_iload_n (j := 2) hC rfl rfl dX10_own_54 ?_
            refine at_callVpI hC hR lk_X10_325 (c_Lv_diedAtAge r4s p0 p1) dX10_own_55 recX4 rfl rfl ⟨by decide, by decide⟩ (Nat.le_of_ble_eq_true rfl) ⟨Nat.le_refl 0, Nat.le_refl 0⟩ (fun r5 _ => ?_)
            refine at_istore (lv' := [(5, .int r5), (0, .ref 36), (1, .int p0), (2, .int p1), (3, .int p2), (4, .int p3)]) hC dX10_own_58 (by decide) rfl ?_
            refine at_iload (j := 5) hC rfl dX10_own_60 ?_
            refine at_if_ne (tgt := 70) hC dX10_own_62 rfl (fun _ => ?_) (fun _ => ?_)
            · refine at_iload (j := 0) hC rfl dX10_own_70 ?_
              refine at_aload_n (j := 1) hC rfl rfl dX10_own_72 ?_
              refine gf_X10_23 hC dX10_own_73 ?_
              refine at_iload_n (j := 2) hC rfl rfl dX10_own_76 ?_
              refine at_iload_n (j := 3) hC rfl rfl dX10_own_77 ?_
              refine at_callVpI hC hR lk_X10_328 (c_Lv_livedThrough r4s p0 p1) dX10_own_78 recX4 rfl rfl ⟨by decide, by decide⟩ (Nat.le_of_ble_eq_true rfl) ⟨Nat.le_refl 0, Nat.le_refl 0⟩ (fun r6 _ => ?_)
              refine at_iadd hC dX10_own_81 ?_
              exact at_iret (F := eqA ad) (ra := rI) hC dX10_own_82 rfl (Nat.le_refl 0) (Nat.le_refl 0) rfl
            · refine at_iload (j := 0) hC rfl dX10_own_65 ?_
              refine at_goto (tgt := 82) hC dX10_own_67 rfl ?_
              exact at_iret (F := eqA ad) (ra := rI) hC dX10_own_82 rfl (Nat.le_refl 0) (Nat.le_refl 0) rfl
          · refine at_bipush hC bi_m2 dX10_own_38 ?_
            exact at_iret (F := eqA ad) (ra := rI) hC dX10_own_40 rfl (Nat.le_refl 0) (Nat.le_refl 0) rfl
        · refine at_iconst hC ic_m1 dX10_own_29 ?_
          exact at_iret (F := eqA ad) (ra := rI) hC dX10_own_30 rfl (Nat.le_refl 0) (Nat.le_refl 0) rfl
theorem dX10_alive_0 : decode cX10_alive 0 = .ok (.iload_n 1, 1) := by decide +kernel
theorem dX10_alive_1 : decode cX10_alive 1 = .ok (.invokestatic 322, 3) := by decide +kernel
theorem dX10_alive_4 : decode cX10_alive 4 = .ok (.ifCond .ne 5, 3) := by decide +kernel
theorem dX10_alive_7 : decode cX10_alive 7 = .ok (.iconst (-1), 1) := by decide +kernel
theorem dX10_alive_8 : decode cX10_alive 8 = .ok (.ireturn, 1) := by decide +kernel
theorem dX10_alive_9 : decode cX10_alive 9 = .ok (.iload_n 2, 1) := by decide +kernel
theorem dX10_alive_10 : decode cX10_alive 10 = .ok (.ifCond .lt 9, 3) := by decide +kernel
theorem dX10_alive_13 : decode cX10_alive 13 = .ok (.iload_n 2, 1) := by decide +kernel
theorem dX10_alive_14 : decode cX10_alive 14 = .ok (.bipush 100, 2) := by decide +kernel
theorem dX10_alive_16 : decode cX10_alive 16 = .ok (.if_icmp .le 6, 3) := by decide +kernel
theorem dX10_alive_19 : decode cX10_alive 19 = .ok (.bipush (-2), 2) := by decide +kernel
theorem dX10_alive_21 : decode cX10_alive 21 = .ok (.ireturn, 1) := by decide +kernel
theorem dX10_alive_22 : decode cX10_alive 22 = .ok (.aload_n 0, 1) := by decide +kernel
theorem dX10_alive_23 : decode cX10_alive 23 = .ok (.getfield 51, 3) := by decide +kernel
theorem dX10_alive_26 : decode cX10_alive 26 = .ok (.iload_n 1, 1) := by decide +kernel
theorem dX10_alive_27 : decode cX10_alive 27 = .ok (.iload_n 2, 1) := by decide +kernel
theorem dX10_alive_28 : decode cX10_alive 28 = .ok (.invokevirtual 331, 3) := by decide +kernel
theorem dX10_alive_31 : decode cX10_alive 31 = .ok (.ireturn, 1) := by decide +kernel
set_option maxRecDepth 100000 in
theorem c_W_alive (τ : XS) (p0 : Int32) (p1 : Int32) : Ct z (wX z σ) rI eqA yX10_alive cX10_alive 3 (some .int) 3 0 0 [.ref 36, .int p0, .int p1] τ ((W_alive τ p0 p1).map fun r => (r, τ)) := by
  refine Ct.of (by decide) (Nat.le_of_ble_eq_true rfl) (fun ad x hC hR _ => ?_)
  show AT z x 3 (wX z σ) rI (eqA ad) 0 0 0 0 ad 0 [(0, .ref 36), (1, .int p0), (2, .int p1)] [] τ ((W_alive τ p0 p1).map fun r => (r, τ))
  unfold W_alive
  refine at_iload_n (j := 1) hC rfl rfl dX10_alive_0 ?_
  refine ap_callSI hC hR lk_X10_322 (c_W_isAge τ p0) dX10_alive_1 rfl rfl ⟨by decide, by decide⟩ (Nat.le_of_ble_eq_true rfl) ⟨Nat.le_refl 0, Nat.le_refl 0⟩ (fun r1 _ => ?_)
  refine ap_if_ne (tgt := 9) hC dX10_alive_4 rfl (fun _ => ?_) (fun _ => ?_)
  · refine at_iload_n (j := 2) hC rfl rfl dX10_alive_9 ?_
    refine ap_if_lt (tgt := 19) hC dX10_alive_10 rfl (fun _ => ?_) (fun _ => ?_)
    · refine at_bipush hC bi_m2 dX10_alive_19 ?_
      exact at_iret (F := eqA ad) (ra := rI) hC dX10_alive_21 rfl (Nat.le_refl 0) (Nat.le_refl 0) rfl
    · refine at_iload_n (j := 2) hC rfl rfl dX10_alive_13 ?_
      refine at_bipush hC bi_100 dX10_alive_14 ?_
      refine ap_icmp_le (tgt := 22) hC dX10_alive_16 rfl (fun _ => ?_) (fun _ => ?_)
      · refine at_aload_n (j := 0) hC rfl rfl dX10_alive_22 ?_
        refine gf_X10_51 hC dX10_alive_23 ?_
        refine at_iload_n (j := 1) hC rfl rfl dX10_alive_26 ?_
        refine at_iload_n (j := 2) hC rfl rfl dX10_alive_27 ?_
        refine ap_callVI hC hR lk_X10_331 (c_Tb_aliveAfter τ p0 p1) dX10_alive_28 recX6 rfl rfl ⟨by decide, by decide⟩ (Nat.le_of_ble_eq_true rfl) ⟨Nat.le_refl 0, Nat.le_refl 0⟩ (fun r2 _ => ?_)
        exact at_iret (F := eqA ad) (ra := rI) hC dX10_alive_31 rfl (Nat.le_refl 0) (Nat.le_refl 0) rfl
      · refine at_bipush hC bi_m2 dX10_alive_19 ?_
        exact at_iret (F := eqA ad) (ra := rI) hC dX10_alive_21 rfl (Nat.le_refl 0) (Nat.le_refl 0) rfl
  · refine at_iconst hC ic_m1 dX10_alive_7 ?_
    exact at_iret (F := eqA ad) (ra := rI) hC dX10_alive_8 rfl (Nat.le_refl 0) (Nat.le_refl 0) rfl
theorem dX10_expect_0 : decode cX10_expect 0 = .ok (.iload_n 1, 1) := by decide +kernel
theorem dX10_expect_1 : decode cX10_expect 1 = .ok (.invokestatic 322, 3) := by decide +kernel
theorem dX10_expect_4 : decode cX10_expect 4 = .ok (.ifCond .eq 14, 3) := by decide +kernel
theorem dX10_expect_7 : decode cX10_expect 7 = .ok (.aload_n 0, 1) := by decide +kernel
theorem dX10_expect_8 : decode cX10_expect 8 = .ok (.getfield 51, 3) := by decide +kernel
theorem dX10_expect_11 : decode cX10_expect 11 = .ok (.iload_n 1, 1) := by decide +kernel
theorem dX10_expect_12 : decode cX10_expect 12 = .ok (.invokevirtual 334, 3) := by decide +kernel
theorem dX10_expect_15 : decode cX10_expect 15 = .ok (.goto 4, 3) := by decide +kernel
theorem dX10_expect_18 : decode cX10_expect 18 = .ok (.iconst (-1), 1) := by decide +kernel
theorem dX10_expect_19 : decode cX10_expect 19 = .ok (.ireturn, 1) := by decide +kernel
set_option maxRecDepth 100000 in
theorem c_W_expect (τ : XS) (p0 : Int32) : Ct z (wX z σ) rI eqA yX10_expect cX10_expect 2 (some .int) 3 0 0 [.ref 36, .int p0] τ ((W_expect τ p0).map fun r => (r, τ)) := by
  refine Ct.of (by decide) (Nat.le_of_ble_eq_true rfl) (fun ad x hC hR _ => ?_)
  show AT z x 2 (wX z σ) rI (eqA ad) 0 0 0 0 ad 0 [(0, .ref 36), (1, .int p0)] [] τ ((W_expect τ p0).map fun r => (r, τ))
  unfold W_expect
  refine at_iload_n (j := 1) hC rfl rfl dX10_expect_0 ?_
  refine ap_callSI hC hR lk_X10_322 (c_W_isAge τ p0) dX10_expect_1 rfl rfl ⟨by decide, by decide⟩ (Nat.le_of_ble_eq_true rfl) ⟨Nat.le_refl 0, Nat.le_refl 0⟩ (fun r1 _ => ?_)
  refine ap_if_eq (tgt := 18) hC dX10_expect_4 rfl (fun _ => ?_) (fun _ => ?_)
  · refine at_iconst hC ic_m1 dX10_expect_18 ?_
    exact at_iret (F := eqA ad) (ra := rI) hC dX10_expect_19 rfl (Nat.le_refl 0) (Nat.le_refl 0) rfl
  · refine at_aload_n (j := 0) hC rfl rfl dX10_expect_7 ?_
    refine gf_X10_51 hC dX10_expect_8 ?_
    refine at_iload_n (j := 1) hC rfl rfl dX10_expect_11 ?_
    refine ap_callVI hC hR lk_X10_334 (c_Tb_yearsAhead τ p0) dX10_expect_12 recX6 rfl rfl ⟨by decide, by decide⟩ (Nat.le_of_ble_eq_true rfl) ⟨Nat.le_refl 0, Nat.le_refl 0⟩ (fun r2 _ => ?_)
    refine at_goto (tgt := 19) hC dX10_expect_15 rfl ?_
    exact at_iret (F := eqA ad) (ra := rI) hC dX10_expect_19 rfl (Nat.le_refl 0) (Nat.le_refl 0) rfl
theorem dX10_interest_0 : decode cX10_interest 0 = .ok (.iload_n 1, 1) := by decide +kernel
theorem dX10_interest_1 : decode cX10_interest 1 = .ok (.ifCond .lt 9, 3) := by decide +kernel
theorem dX10_interest_4 : decode cX10_interest 4 = .ok (.iload_n 1, 1) := by decide +kernel
theorem dX10_interest_5 : decode cX10_interest 5 = .ok (.bipush 20, 2) := by decide +kernel
theorem dX10_interest_7 : decode cX10_interest 7 = .ok (.if_icmp .le 6, 3) := by decide +kernel
theorem dX10_interest_10 : decode cX10_interest 10 = .ok (.bipush (-2), 2) := by decide +kernel
theorem dX10_interest_12 : decode cX10_interest 12 = .ok (.ireturn, 1) := by decide +kernel
theorem dX10_interest_13 : decode cX10_interest 13 = .ok (.aload_n 0, 1) := by decide +kernel
theorem dX10_interest_14 : decode cX10_interest 14 = .ok (.getfield 51, 3) := by decide +kernel
theorem dX10_interest_17 : decode cX10_interest 17 = .ok (.getfield 338, 3) := by decide +kernel
theorem dX10_interest_20 : decode cX10_interest 20 = .ok (.istore_n 2, 1) := by decide +kernel
theorem dX10_interest_21 : decode cX10_interest 21 = .ok (.aload_n 0, 1) := by decide +kernel
theorem dX10_interest_22 : decode cX10_interest 22 = .ok (.getfield 51, 3) := by decide +kernel
theorem dX10_interest_25 : decode cX10_interest 25 = .ok (.iload_n 1, 1) := by decide +kernel
theorem dX10_interest_26 : decode cX10_interest 26 = .ok (.putfield 338, 3) := by decide +kernel
theorem dX10_interest_29 : decode cX10_interest 29 = .ok (.iload_n 2, 1) := by decide +kernel
theorem dX10_interest_30 : decode cX10_interest 30 = .ok (.ireturn, 1) := by decide +kernel
set_option maxRecDepth 100000 in
theorem c_W_interest (τ : XS) (p0 : Int32) : Ct z (wX z σ) rI eqA yX10_interest cX10_interest 3 (some .int) 1 0 0 [.ref 36, .int p0] τ (W_interest τ p0) := by
  refine Ct.of (by decide) (Nat.le_of_ble_eq_true rfl) (fun ad x hC hR _ => ?_)
  show AT z x 3 (wX z σ) rI (eqA ad) 0 0 0 0 ad 0 [(0, .ref 36), (1, .int p0)] [] τ (W_interest τ p0)
  unfold W_interest
  refine at_iload_n (j := 1) hC rfl rfl dX10_interest_0 ?_
  refine at_if_lt (tgt := 10) hC dX10_interest_1 rfl (fun _ => ?_) (fun _ => ?_)
  · refine at_bipush hC bi_m2 dX10_interest_10 ?_
    exact at_iret (F := eqA ad) (ra := rI) hC dX10_interest_12 rfl (Nat.le_refl 0) (Nat.le_refl 0) rfl
  · refine at_iload_n (j := 1) hC rfl rfl dX10_interest_4 ?_
    refine at_bipush hC bi_20 dX10_interest_5 ?_
    refine at_icmp_le (tgt := 13) hC dX10_interest_7 rfl (fun _ => ?_) (fun _ => ?_)
    · refine at_aload_n (j := 0) hC rfl rfl dX10_interest_13 ?_
      refine gf_X10_51 hC dX10_interest_14 ?_
      refine gf_X10_338 hC dX10_interest_17 ?_
      refine at_istore_n (lv' := [(2, .int (τ.1 601)), (0, .ref 36), (1, .int p0)]) hC rfl dX10_interest_20 (by decide) rfl ?_
      refine at_aload_n (j := 1) hC rfl rfl dX10_interest_21 ?_
      refine gf_X10_51 hC dX10_interest_22 ?_
      refine at_iload_n (j := 2) hC rfl rfl dX10_interest_25 ?_
      refine pf_X10_338 hC dX10_interest_26 ?_
      refine at_iload_n (j := 0) hC rfl rfl dX10_interest_29 ?_
      exact at_iret (F := eqA ad) (ra := rI) hC dX10_interest_30 rfl (Nat.le_refl 0) (Nat.le_refl 0) rfl
    · refine at_bipush hC bi_m2 dX10_interest_10 ?_
      exact at_iret (F := eqA ad) (ra := rI) hC dX10_interest_12 rfl (Nat.le_refl 0) (Nat.le_refl 0) rfl
theorem dX10_worth_0 : decode cX10_worth 0 = .ok (.iload_n 2, 1) := by decide +kernel
theorem dX10_worth_1 : decode cX10_worth 1 = .ok (.invokestatic 322, 3) := by decide +kernel
theorem dX10_worth_4 : decode cX10_worth 4 = .ok (.ifCond .eq 14, 3) := by decide +kernel
theorem dX10_worth_7 : decode cX10_worth 7 = .ok (.iload_n 1, 1) := by decide +kernel
theorem dX10_worth_8 : decode cX10_worth 8 = .ok (.ifCond .lt 10, 3) := by decide +kernel
theorem dX10_worth_11 : decode cX10_worth 11 = .ok (.iload_n 1, 1) := by decide +kernel
theorem dX10_worth_12 : decode cX10_worth 12 = .ok (.sipush 9999, 3) := by decide +kernel
theorem dX10_worth_15 : decode cX10_worth 15 = .ok (.if_icmp .le 7, 3) := by decide +kernel
theorem dX10_worth_18 : decode cX10_worth 18 = .ok (.ldc2_w 274, 3) := by decide +kernel
theorem dX10_worth_21 : decode cX10_worth 21 = .ok (.lreturn, 1) := by decide +kernel
theorem dX10_worth_22 : decode cX10_worth 22 = .ok (.aload_n 0, 1) := by decide +kernel
theorem dX10_worth_23 : decode cX10_worth 23 = .ok (.getfield 51, 3) := by decide +kernel
theorem dX10_worth_26 : decode cX10_worth 26 = .ok (.iload_n 1, 1) := by decide +kernel
theorem dX10_worth_27 : decode cX10_worth 27 = .ok (.iload_n 2, 1) := by decide +kernel
theorem dX10_worth_28 : decode cX10_worth 28 = .ok (.invokevirtual 341, 3) := by decide +kernel
theorem dX10_worth_31 : decode cX10_worth 31 = .ok (.lreturn, 1) := by decide +kernel
set_option maxRecDepth 100000 in
theorem c_W_worth (τ : XS) (p0 : Int32) (p1 : Int32) : Ct z (wX z σ) rJ eqA yX10_worth cX10_worth 3 (some .long) 3 0 0 [.ref 36, .int p0, .int p1] τ ((W_worth τ p0 p1).map fun r => (r, τ)) := by
  refine Ct.of (by decide) (Nat.le_of_ble_eq_true rfl) (fun ad x hC hR _ => ?_)
  show AT z x 3 (wX z σ) rJ (eqA ad) 0 0 0 0 ad 0 [(0, .ref 36), (1, .int p0), (2, .int p1)] [] τ ((W_worth τ p0 p1).map fun r => (r, τ))
  unfold W_worth
  refine at_iload_n (j := 2) hC rfl rfl dX10_worth_0 ?_
  refine ap_callSI hC hR lk_X10_322 (c_W_isAge τ p1) dX10_worth_1 rfl rfl ⟨by decide, by decide⟩ (Nat.le_of_ble_eq_true rfl) ⟨Nat.le_refl 0, Nat.le_refl 0⟩ (fun r1 _ => ?_)
  refine ap_if_eq (tgt := 18) hC dX10_worth_4 rfl (fun _ => ?_) (fun _ => ?_)
  · refine at_ldc2 hC kl_X10_274 dX10_worth_18 ?_
    exact at_lret (F := eqA ad) (ra := rJ) hC dX10_worth_21 rfl (Nat.le_refl 0) (Nat.le_refl 0) rfl
  · refine at_iload_n (j := 1) hC rfl rfl dX10_worth_7 ?_
    refine ap_if_lt (tgt := 18) hC dX10_worth_8 rfl (fun _ => ?_) (fun _ => ?_)
    · refine at_ldc2 hC kl_X10_274 dX10_worth_18 ?_
      exact at_lret (F := eqA ad) (ra := rJ) hC dX10_worth_21 rfl (Nat.le_refl 0) (Nat.le_refl 0) rfl
    · refine at_iload_n (j := 1) hC rfl rfl dX10_worth_11 ?_
      refine at_sipush hC si_9999 dX10_worth_12 ?_
      refine ap_icmp_le (tgt := 22) hC dX10_worth_15 rfl (fun _ => ?_) (fun _ => ?_)
      · refine at_aload_n (j := 0) hC rfl rfl dX10_worth_22 ?_
        refine gf_X10_51 hC dX10_worth_23 ?_
        refine at_iload_n (j := 1) hC rfl rfl dX10_worth_26 ?_
        refine at_iload_n (j := 2) hC rfl rfl dX10_worth_27 ?_
        refine ap_callVJ hC hR lk_X10_341 (c_Tb_worthOf τ p0 p1) dX10_worth_28 recX6 rfl rfl ⟨by decide, by decide⟩ (Nat.le_of_ble_eq_true rfl) ⟨Nat.le_refl 0, Nat.le_refl 0⟩ (fun r2 _ => ?_)
        exact at_lret (F := eqA ad) (ra := rJ) hC dX10_worth_31 rfl (Nat.le_refl 0) (Nat.le_refl 0) rfl
      · refine at_ldc2 hC kl_X10_274 dX10_worth_18 ?_
        exact at_lret (F := eqA ad) (ra := rJ) hC dX10_worth_21 rfl (Nat.le_refl 0) (Nat.le_refl 0) rfl
end G
