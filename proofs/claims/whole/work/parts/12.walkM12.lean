section G
variable {z : ZZ} {x : XX} {ad : Nat → Nat} {τ : XS}
theorem dX11_sum_0 : decode cX11_sum 0 = .ok (.aload_n 0, 1) := by decide +kernel
theorem dX11_sum_1 : decode cX11_sum 1 = .ok (.iload_n 1, 1) := by decide +kernel
theorem dX11_sum_2 : decode cX11_sum 2 = .ok (.invokevirtual 133, 3) := by decide +kernel
theorem dX11_sum_5 : decode cX11_sum 5 = .ok (.ifCond .eq 18, 3) := by decide +kernel
theorem dX11_sum_8 : decode cX11_sum 8 = .ok (.iload_n 2, 1) := by decide +kernel
theorem dX11_sum_9 : decode cX11_sum 9 = .ok (.invokestatic 379, 3) := by decide +kernel
theorem dX11_sum_12 : decode cX11_sum 12 = .ok (.ifCond .eq 11, 3) := by decide +kernel
theorem dX11_sum_15 : decode cX11_sum 15 = .ok (.aload_n 0, 1) := by decide +kernel
theorem dX11_sum_16 : decode cX11_sum 16 = .ok (.iload_n 3, 1) := by decide +kernel
theorem dX11_sum_17 : decode cX11_sum 17 = .ok (.invokevirtual 212, 3) := by decide +kernel
theorem dX11_sum_20 : decode cX11_sum 20 = .ok (.ifCond .ne 7, 3) := by decide +kernel
theorem dX11_sum_23 : decode cX11_sum 23 = .ok (.ldc2_w 382, 3) := by decide +kernel
theorem dX11_sum_26 : decode cX11_sum 26 = .ok (.lreturn, 1) := by decide +kernel
theorem dX11_sum_27 : decode cX11_sum 27 = .ok (.aload_n 0, 1) := by decide +kernel
theorem dX11_sum_28 : decode cX11_sum 28 = .ok (.iload_n 3, 1) := by decide +kernel
theorem dX11_sum_29 : decode cX11_sum 29 = .ok (.invokevirtual 143, 3) := by decide +kernel
theorem dX11_sum_32 : decode cX11_sum 32 = .ok (.aload_n 0, 1) := by decide +kernel
theorem dX11_sum_33 : decode cX11_sum 33 = .ok (.iload_n 1, 1) := by decide +kernel
theorem dX11_sum_34 : decode cX11_sum 34 = .ok (.iload_n 2, 1) := by decide +kernel
theorem dX11_sum_35 : decode cX11_sum 35 = .ok (.invokevirtual 410, 3) := by decide +kernel
theorem dX11_sum_38 : decode cX11_sum 38 = .ok (.lreturn, 1) := by decide +kernel
set_option maxRecDepth 100000 in
theorem c_M_sum (σ : MS) (p0 : Int32) (p1 : Int32) (p2 : Int32) : Ct z (wM z τ) rJ eqA yX11_sum cX11_sum 4 (some .long) 622 0 0 [.ref 0, .int p0, .int p1, .int p2] σ (M_sum σ p0 p1 p2) := by
  refine Ct.of (by decide) (Nat.le_of_ble_eq_true rfl) (fun ad x hC hR _ => ?_)
  show AT z x 4 (wM z τ) rJ (eqA ad) 0 0 0 0 ad 0 [(0, .ref 0), (1, .int p0), (2, .int p1), (3, .int p2)] [] σ (M_sum σ p0 p1 p2)
  unfold M_sum
  refine at_aload_n (j := 0) hC rfl rfl dX11_sum_0 ?_
  refine at_iload_n (j := 1) hC rfl rfl dX11_sum_1 ?_
  refine at_callVpI hC hR lk_X11_133 (c_M_isPerson σ p0) dX11_sum_2 recX11 rfl rfl ⟨by decide, by decide⟩ (Nat.le_of_ble_eq_true rfl) ⟨Nat.le_refl 0, Nat.le_refl 0⟩ (fun r1 _ => ?_)
  refine at_if_eq (tgt := 23) hC dX11_sum_5 rfl (fun _ => ?_) (fun _ => ?_)
  · refine at_ldc2 hC kl_X11_382 dX11_sum_23 ?_
    exact at_lret (F := eqA ad) (ra := rJ) hC dX11_sum_26 rfl (Nat.le_refl 0) (Nat.le_refl 0) rfl
  · refine at_iload_n (j := 2) hC rfl rfl dX11_sum_8 ?_
    refine at_callSpI hC hR lk_X11_379 (c_M_isYear σ p1) dX11_sum_9 rfl rfl ⟨by decide, by decide⟩ (Nat.le_of_ble_eq_true rfl) ⟨Nat.le_refl 0, Nat.le_refl 0⟩ (fun r2 _ => ?_)
    refine at_if_eq (tgt := 23) hC dX11_sum_12 rfl (fun _ => ?_) (fun _ => ?_)
    · refine at_ldc2 hC kl_X11_382 dX11_sum_23 ?_
      exact at_lret (F := eqA ad) (ra := rJ) hC dX11_sum_26 rfl (Nat.le_refl 0) (Nat.le_refl 0) rfl
    · refine at_aload_n (j := 0) hC rfl rfl dX11_sum_15 ?_
      refine at_iload_n (j := 3) hC rfl rfl dX11_sum_16 ?_
      refine at_callVpI hC hR lk_X11_212 (c_M_isBy σ p2) dX11_sum_17 recX11 rfl rfl ⟨by decide, by decide⟩ (Nat.le_of_ble_eq_true rfl) ⟨Nat.le_refl 0, Nat.le_refl 0⟩ (fun r3 _ => ?_)
      refine at_if_ne (tgt := 27) hC dX11_sum_20 rfl (fun _ => ?_) (fun _ => ?_)
      · refine at_aload_n (j := 0) hC rfl rfl dX11_sum_27 ?_
        refine at_iload_n (j := 3) hC rfl rfl dX11_sum_28 ?_
        refine at_callVU hC hR lk_X11_143 (c_M_looks σ p2) dX11_sum_29 recX11 rfl rfl ⟨by decide, by decide⟩ (Nat.le_of_ble_eq_true rfl) ⟨Nat.le_refl 0, Nat.le_refl 0⟩ (fun r4 r4s _ => ?_)
        refine at_aload_n (j := 0) hC rfl rfl dX11_sum_32 ?_
        refine at_iload_n (j := 1) hC rfl rfl dX11_sum_33 ?_
        refine at_iload_n (j := 2) hC rfl rfl dX11_sum_34 ?_
        refine at_callVJ hC hR lk_X11_410 (c_M_sumOf r4s p0 p1) dX11_sum_35 recX11 rfl rfl ⟨by decide, by decide⟩ (Nat.le_of_ble_eq_true rfl) ⟨Nat.le_refl 0, Nat.le_refl 0⟩ (fun r5 r5s _ => ?_)
        exact at_lret (F := eqA ad) (ra := rJ) hC dX11_sum_38 rfl (Nat.le_refl 0) (Nat.le_refl 0) rfl
      · refine at_ldc2 hC kl_X11_382 dX11_sum_23 ?_
        exact at_lret (F := eqA ad) (ra := rJ) hC dX11_sum_26 rfl (Nat.le_refl 0) (Nat.le_refl 0) rfl
theorem dX11_begin_0 : decode cX11_begin 0 = .ok (.iload_n 1, 1) := by decide +kernel
theorem dX11_begin_1 : decode cX11_begin 1 = .ok (.iconst 0, 1) := by decide +kernel
theorem dX11_begin_2 : decode cX11_begin 2 = .ok (.ldc_w 413, 3) := by decide +kernel
theorem dX11_begin_5 : decode cX11_begin 5 = .ok (.invokestatic 129, 3) := by decide +kernel
theorem dX11_begin_8 : decode cX11_begin 8 = .ok (.ifCond .ne 6, 3) := by decide +kernel
theorem dX11_begin_11 : decode cX11_begin 11 = .ok (.bipush (-2), 2) := by decide +kernel
theorem dX11_begin_13 : decode cX11_begin 13 = .ok (.ireturn, 1) := by decide +kernel
theorem dX11_begin_14 : decode cX11_begin 14 = .ok (.aload_n 0, 1) := by decide +kernel
theorem dX11_begin_15 : decode cX11_begin 15 = .ok (.getfield 414, 3) := by decide +kernel
theorem dX11_begin_18 : decode cX11_begin 18 = .ok (.istore_n 2, 1) := by decide +kernel
theorem dX11_begin_19 : decode cX11_begin 19 = .ok (.aload_n 0, 1) := by decide +kernel
theorem dX11_begin_20 : decode cX11_begin 20 = .ok (.iload_n 1, 1) := by decide +kernel
theorem dX11_begin_21 : decode cX11_begin 21 = .ok (.putfield 414, 3) := by decide +kernel
theorem dX11_begin_24 : decode cX11_begin 24 = .ok (.iload_n 2, 1) := by decide +kernel
theorem dX11_begin_25 : decode cX11_begin 25 = .ok (.ireturn, 1) := by decide +kernel
set_option maxRecDepth 100000 in
theorem c_M_begin (σ : MS) (p0 : Int32) : Ct z (wM z τ) rI eqA yX11_begin cX11_begin 3 (some .int) 2 0 0 [.ref 0, .int p0] σ (M_begin σ p0) := by
  refine Ct.of (by decide) (Nat.le_of_ble_eq_true rfl) (fun ad x hC hR _ => ?_)
  show AT z x 3 (wM z τ) rI (eqA ad) 0 0 0 0 ad 0 [(0, .ref 0), (1, .int p0)] [] σ (M_begin σ p0)
  unfold M_begin
  refine at_iload_n (j := 1) hC rfl rfl dX11_begin_0 ?_
  refine at_iconst hC ic_0 dX11_begin_1 ?_
  refine at_ldcw hC kc_X11_413 dX11_begin_2 ?_
  refine at_callSpI hC hR lk_X11_129 (c_M_in σ p0 0 99999) dX11_begin_5 rfl rfl ⟨by decide, by decide⟩ (Nat.le_of_ble_eq_true rfl) ⟨Nat.le_refl 0, Nat.le_refl 0⟩ (fun r1 _ => ?_)
  refine at_if_ne (tgt := 14) hC dX11_begin_8 rfl (fun _ => ?_) (fun _ => ?_)
  · refine at_aload_n (j := 0) hC rfl rfl dX11_begin_14 ?_
    refine gf_X11_414 hC dX11_begin_15 ?_
    refine at_istore_n (lv' := [(2, .int (σ.1 26)), (0, .ref 0), (1, .int p0)]) hC rfl dX11_begin_18 (by decide) rfl ?_
    refine at_aload_n (j := 1) hC rfl rfl dX11_begin_19 ?_
    refine at_iload_n (j := 2) hC rfl rfl dX11_begin_20 ?_
    refine pf_X11_414 hC dX11_begin_21 ?_
    refine at_iload_n (j := 0) hC rfl rfl dX11_begin_24 ?_
    exact at_iret (F := eqA ad) (ra := rI) hC dX11_begin_25 rfl (Nat.le_refl 0) (Nat.le_refl 0) rfl
  · refine at_bipush hC bi_m2 dX11_begin_11 ?_
    exact at_iret (F := eqA ad) (ra := rI) hC dX11_begin_13 rfl (Nat.le_refl 0) (Nat.le_refl 0) rfl
theorem dX11_comesOf_0 : decode cX11_comesOf 0 = .ok (.iload_n 2, 1) := by decide +kernel
theorem dX11_comesOf_1 : decode cX11_comesOf 1 = .ok (.aload_n 0, 1) := by decide +kernel
theorem dX11_comesOf_2 : decode cX11_comesOf 2 = .ok (.getfield 73, 3) := by decide +kernel
theorem dX11_comesOf_5 : decode cX11_comesOf 5 = .ok (.iload_n 1, 1) := by decide +kernel
theorem dX11_comesOf_6 : decode cX11_comesOf 6 = .ok (.iaload, 1) := by decide +kernel
theorem dX11_comesOf_7 : decode cX11_comesOf 7 = .ok (.isub, 1) := by decide +kernel
theorem dX11_comesOf_8 : decode cX11_comesOf 8 = .ok (.istore_n 3, 1) := by decide +kernel
theorem dX11_comesOf_9 : decode cX11_comesOf 9 = .ok (.iload_n 3, 1) := by decide +kernel
theorem dX11_comesOf_10 : decode cX11_comesOf 10 = .ok (.ifCond .ne 12, 3) := by decide +kernel
theorem dX11_comesOf_13 : decode cX11_comesOf 13 = .ok (.aload_n 0, 1) := by decide +kernel
theorem dX11_comesOf_14 : decode cX11_comesOf 14 = .ok (.getfield 70, 3) := by decide +kernel
theorem dX11_comesOf_17 : decode cX11_comesOf 17 = .ok (.iload_n 1, 1) := by decide +kernel
theorem dX11_comesOf_18 : decode cX11_comesOf 18 = .ok (.iaload, 1) := by decide +kernel
theorem dX11_comesOf_19 : decode cX11_comesOf 19 = .ok (.ineg, 1) := by decide +kernel
theorem dX11_comesOf_20 : decode cX11_comesOf 20 = .ok (.i2l, 1) := by decide +kernel
theorem dX11_comesOf_21 : decode cX11_comesOf 21 = .ok (.lreturn, 1) := by decide +kernel
theorem dX11_comesOf_22 : decode cX11_comesOf 22 = .ok (.iload_n 3, 1) := by decide +kernel
theorem dX11_comesOf_23 : decode cX11_comesOf 23 = .ok (.ifCond .lt 23, 3) := by decide +kernel
theorem dX11_comesOf_26 : decode cX11_comesOf 26 = .ok (.iload_n 3, 1) := by decide +kernel
theorem dX11_comesOf_27 : decode cX11_comesOf 27 = .ok (.aload_n 0, 1) := by decide +kernel
theorem dX11_comesOf_28 : decode cX11_comesOf 28 = .ok (.getfield 76, 3) := by decide +kernel
theorem dX11_comesOf_31 : decode cX11_comesOf 31 = .ok (.iload_n 1, 1) := by decide +kernel
theorem dX11_comesOf_32 : decode cX11_comesOf 32 = .ok (.iaload, 1) := by decide +kernel
theorem dX11_comesOf_33 : decode cX11_comesOf 33 = .ok (.if_icmp .gt 13, 3) := by decide +kernel
theorem dX11_comesOf_36 : decode cX11_comesOf 36 = .ok (.iload_n 2, 1) := by decide +kernel
theorem dX11_comesOf_37 : decode cX11_comesOf 37 = .ok (.aload_n 0, 1) := by decide +kernel
theorem dX11_comesOf_38 : decode cX11_comesOf 38 = .ok (.getfield 82, 3) := by decide +kernel
theorem dX11_comesOf_41 : decode cX11_comesOf 41 = .ok (.iload_n 1, 1) := by decide +kernel
theorem dX11_comesOf_42 : decode cX11_comesOf 42 = .ok (.iaload, 1) := by decide +kernel
theorem dX11_comesOf_43 : decode cX11_comesOf 43 = .ok (.if_icmp .lt 5, 3) := by decide +kernel
theorem dX11_comesOf_46 : decode cX11_comesOf 46 = .ok (.lconst 0, 1) := by decide +kernel
theorem dX11_comesOf_47 : decode cX11_comesOf 47 = .ok (.lreturn, 1) := by decide +kernel
theorem dX11_comesOf_48 : decode cX11_comesOf 48 = .ok (.aload_n 0, 1) := by decide +kernel
theorem dX11_comesOf_49 : decode cX11_comesOf 49 = .ok (.getfield 70, 3) := by decide +kernel
theorem dX11_comesOf_52 : decode cX11_comesOf 52 = .ok (.iload_n 1, 1) := by decide +kernel
theorem dX11_comesOf_53 : decode cX11_comesOf 53 = .ok (.iaload, 1) := by decide +kernel
theorem dX11_comesOf_54 : decode cX11_comesOf 54 = .ok (.aload_n 0, 1) := by decide +kernel
theorem dX11_comesOf_55 : decode cX11_comesOf 55 = .ok (.getfield 79, 3) := by decide +kernel
theorem dX11_comesOf_58 : decode cX11_comesOf 58 = .ok (.iload_n 1, 1) := by decide +kernel
theorem dX11_comesOf_59 : decode cX11_comesOf 59 = .ok (.iaload, 1) := by decide +kernel
theorem dX11_comesOf_60 : decode cX11_comesOf 60 = .ok (.imul, 1) := by decide +kernel
theorem dX11_comesOf_61 : decode cX11_comesOf 61 = .ok (.bipush 100, 2) := by decide +kernel
theorem dX11_comesOf_63 : decode cX11_comesOf 63 = .ok (.idiv, 1) := by decide +kernel
theorem dX11_comesOf_64 : decode cX11_comesOf 64 = .ok (.iload_n 3, 1) := by decide +kernel
theorem dX11_comesOf_65 : decode cX11_comesOf 65 = .ok (.aload_n 0, 1) := by decide +kernel
theorem dX11_comesOf_66 : decode cX11_comesOf 66 = .ok (.getfield 76, 3) := by decide +kernel
theorem dX11_comesOf_69 : decode cX11_comesOf 69 = .ok (.iload_n 1, 1) := by decide +kernel
theorem dX11_comesOf_70 : decode cX11_comesOf 70 = .ok (.iaload, 1) := by decide +kernel
theorem dX11_comesOf_71 : decode cX11_comesOf 71 = .ok (.if_icmp .ne 12, 3) := by decide +kernel
theorem dX11_comesOf_74 : decode cX11_comesOf 74 = .ok (.aload_n 0, 1) := by decide +kernel
theorem dX11_comesOf_75 : decode cX11_comesOf 75 = .ok (.getfield 70, 3) := by decide +kernel
theorem dX11_comesOf_78 : decode cX11_comesOf 78 = .ok (.iload_n 1, 1) := by decide +kernel
theorem dX11_comesOf_79 : decode cX11_comesOf 79 = .ok (.iaload, 1) := by decide +kernel
theorem dX11_comesOf_80 : decode cX11_comesOf 80 = .ok (.goto 4, 3) := by decide +kernel
theorem dX11_comesOf_83 : decode cX11_comesOf 83 = .ok (.iconst 0, 1) := by decide +kernel
theorem dX11_comesOf_84 : decode cX11_comesOf 84 = .ok (.iadd, 1) := by decide +kernel
theorem dX11_comesOf_85 : decode cX11_comesOf 85 = .ok (.i2l, 1) := by decide +kernel
theorem dX11_comesOf_86 : decode cX11_comesOf 86 = .ok (.lreturn, 1) := by decide +kernel
set_option maxRecDepth 100000 in
theorem t_M_comesOf_J84 (hC : CX z ad x cX11_comesOf RX11 4 (some .long)) (hR : x.2.2.1 = rmk 1 0 0) (σ : MS) (s0 : Int32) (s1 : Int32) : AT z x 4 (wM z τ) rJ (eqA ad) 0 0 0 0 ad 84 [] [.int s0, .int s1] σ ((M_comesOf_J84 σ s0 s1).map fun r => (r, σ)) := by
  unfold M_comesOf_J84
  refine at_iadd hC dX11_comesOf_84 ?_
  refine at_i2l hC dX11_comesOf_85 ?_
  exact at_lret (F := eqA ad) (ra := rJ) hC dX11_comesOf_86 rfl (Nat.le_refl 0) (Nat.le_refl 0) rfl
set_option maxRecDepth 100000 in
theorem c_M_comesOf (σ : MS) (p0 : Int32) (p1 : Int32) : Ct z (wM z τ) rJ eqA yX11_comesOf cX11_comesOf 4 (some .long) 1 0 0 [.ref 0, .int p0, .int p1] σ ((M_comesOf σ p0 p1).map fun r => (r, σ)) := by
  refine Ct.of (by decide) (Nat.le_of_ble_eq_true rfl) (fun ad x hC hR _ => ?_)
  show AT z x 4 (wM z τ) rJ (eqA ad) 0 0 0 0 ad 0 [(0, .ref 0), (1, .int p0), (2, .int p1)] [] σ ((M_comesOf σ p0 p1).map fun r => (r, σ))
  unfold M_comesOf
  refine at_iload_n (j := 2) hC rfl rfl dX11_comesOf_0 ?_
  refine at_aload_n (j := 0) hC rfl rfl dX11_comesOf_1 ?_
  refine gf_X11_73 hC dX11_comesOf_2 ?_
  refine at_iload_n (j := 1) hC rfl rfl dX11_comesOf_5 ?_
  refine ap_iald hC 21 dX11_comesOf_6 cl_21 (fun v1 => ?_)
  refine at_isub hC dX11_comesOf_7 ?_
  refine at_istore_n (lv' := [(3, .int (p1 - v1)), (0, .ref 0), (1, .int p0), (2, .int p1)]) hC rfl dX11_comesOf_8 (by decide) rfl ?_
  refine at_iload_n (j := 0) hC rfl rfl dX11_comesOf_9 ?_
  refine ap_if_ne (tgt := 22) hC dX11_comesOf_10 rfl (fun _ => ?_) (fun _ => ?_)
  · refine at_iload_n (j := 0) hC rfl rfl dX11_comesOf_22 ?_
    refine ap_if_lt (tgt := 46) hC dX11_comesOf_23 rfl (fun _ => ?_) (fun _ => ?_)
    · refine at_lconst hC lc_0 dX11_comesOf_46 ?_
      exact at_lret (F := eqA ad) (ra := rJ) hC dX11_comesOf_47 rfl (Nat.le_refl 0) (Nat.le_refl 0) rfl
    · refine at_iload_n (j := 0) hC rfl rfl dX11_comesOf_26 ?_
      refine at_aload_n (j := 1) hC rfl rfl dX11_comesOf_27 ?_
      refine gf_X11_76 hC dX11_comesOf_28 ?_
      refine at_iload_n (j := 2) hC rfl rfl dX11_comesOf_31 ?_
      refine ap_iald hC 22 dX11_comesOf_32 cl_22 (fun v2 => ?_)
      refine ap_icmp_gt (tgt := 46) hC dX11_comesOf_33 rfl (fun _ => ?_) (fun _ => ?_)
      · refine at_lconst hC lc_0 dX11_comesOf_46 ?_
        exact at_lret (F := eqA ad) (ra := rJ) hC dX11_comesOf_47 rfl (Nat.le_refl 0) (Nat.le_refl 0) rfl
      · refine at_iload_n (j := 3) hC rfl rfl dX11_comesOf_36 ?_
        refine at_aload_n (j := 1) hC rfl rfl dX11_comesOf_37 ?_
        refine gf_X11_82 hC dX11_comesOf_38 ?_
        refine at_iload_n (j := 2) hC rfl rfl dX11_comesOf_41 ?_
        refine ap_iald hC 24 dX11_comesOf_42 cl_24 (fun v3 => ?_)
        refine ap_icmp_lt (tgt := 48) hC dX11_comesOf_43 rfl (fun _ => ?_) (fun _ => ?_)
        · refine at_aload_n (j := 1) hC rfl rfl dX11_comesOf_48 ?_
          refine gf_X11_70 hC dX11_comesOf_49 ?_
          refine at_iload_n (j := 2) hC rfl rfl dX11_comesOf_52 ?_
          refine ap_iald hC 20 dX11_comesOf_53 cl_20 (fun v4 => ?_)
          refine at_aload_n (j := 1) hC rfl rfl dX11_comesOf_54 ?_
          refine gf_X11_79 hC dX11_comesOf_55 ?_
          refine at_iload_n (j := 2) hC rfl rfl dX11_comesOf_58 ?_
          refine ap_iald hC 23 dX11_comesOf_59 cl_23 (fun v5 => ?_)
          refine at_imul hC dX11_comesOf_60 ?_
          refine at_bipush hC bi_100 dX11_comesOf_61 ?_
          refine at_idiv hC (by decide) dX11_comesOf_63 ?_
          refine at_iload_n (j := 0) hC rfl rfl dX11_comesOf_64 ?_
          refine at_aload_n (j := 1) hC rfl rfl dX11_comesOf_65 ?_
          refine gf_X11_76 hC dX11_comesOf_66 ?_
          refine at_iload_n (j := 2) hC rfl rfl dX11_comesOf_69 ?_
          refine ap_iald hC 22 dX11_comesOf_70 cl_22 (fun v6 => ?_)
          refine ap_icmp_ne (tgt := 83) hC dX11_comesOf_71 rfl (fun _ => ?_) (fun _ => ?_)
          · refine at_iconst hC ic_0 dX11_comesOf_83 ?_
            refine at_drop (lv' := []) [] rfl ?_
            exact t_M_comesOf_J84 hC hR σ 0 ((v4 * v5) / 100)
          · refine at_aload_n (j := 1) hC rfl rfl dX11_comesOf_74 ?_
            refine gf_X11_70 hC dX11_comesOf_75 ?_
            refine at_iload_n (j := 2) hC rfl rfl dX11_comesOf_78 ?_
            refine ap_iald hC 20 dX11_comesOf_79 cl_20 (fun v7 => ?_)
            refine at_goto (tgt := 84) hC dX11_comesOf_80 rfl ?_
            refine at_drop (lv' := []) [] rfl ?_
            exact t_M_comesOf_J84 hC hR σ v7 ((v4 * v5) / 100)
        · refine at_lconst hC lc_0 dX11_comesOf_46 ?_
          exact at_lret (F := eqA ad) (ra := rJ) hC dX11_comesOf_47 rfl (Nat.le_refl 0) (Nat.le_refl 0) rfl
  · refine at_aload_n (j := 1) hC rfl rfl dX11_comesOf_13 ?_
    refine gf_X11_70 hC dX11_comesOf_14 ?_
    refine at_iload_n (j := 2) hC rfl rfl dX11_comesOf_17 ?_
    refine ap_iald hC 20 dX11_comesOf_18 cl_20 (fun v8 => ?_)
    refine at_ineg hC dX11_comesOf_19 ?_
    refine at_i2l hC dX11_comesOf_20 ?_
    exact at_lret (F := eqA ad) (ra := rJ) hC dX11_comesOf_21 rfl (Nat.le_refl 0) (Nat.le_refl 0) rfl
theorem dX11_brings_0 : decode cX11_brings 0 = .ok (.aload_n 0, 1) := by decide +kernel
theorem dX11_brings_1 : decode cX11_brings 1 = .ok (.iload_n 1, 1) := by decide +kernel
theorem dX11_brings_2 : decode cX11_brings 2 = .ok (.invokevirtual 388, 3) := by decide +kernel
theorem dX11_brings_5 : decode cX11_brings 5 = .ok (.aload_n 0, 1) := by decide +kernel
theorem dX11_brings_6 : decode cX11_brings 6 = .ok (.iconst (-1), 1) := by decide +kernel
theorem dX11_brings_7 : decode cX11_brings 7 = .ok (.iload_n 1, 1) := by decide +kernel
theorem dX11_brings_8 : decode cX11_brings 8 = .ok (.invokevirtual 410, 3) := by decide +kernel
theorem dX11_brings_11 : decode cX11_brings 11 = .ok (.lsub, 1) := by decide +kernel
theorem dX11_brings_12 : decode cX11_brings 12 = .ok (.lstore_n 2, 1) := by decide +kernel
theorem dX11_brings_13 : decode cX11_brings 13 = .ok (.iconst 0, 1) := by decide +kernel
theorem dX11_brings_14 : decode cX11_brings 14 = .ok (.istore 4, 2) := by decide +kernel
theorem dX11_brings_16 : decode cX11_brings 16 = .ok (.iload 4, 2) := by decide +kernel
theorem dX11_brings_18 : decode cX11_brings 18 = .ok (.aload_n 0, 1) := by decide +kernel
theorem dX11_brings_19 : decode cX11_brings 19 = .ok (.getfield 417, 3) := by decide +kernel
theorem dX11_brings_22 : decode cX11_brings 22 = .ok (.if_icmp .ge 19, 3) := by decide +kernel
theorem dX11_brings_25 : decode cX11_brings 25 = .ok (.lload_n 2, 1) := by decide +kernel
theorem dX11_brings_26 : decode cX11_brings 26 = .ok (.aload_n 0, 1) := by decide +kernel
theorem dX11_brings_27 : decode cX11_brings 27 = .ok (.iload 4, 2) := by decide +kernel
theorem dX11_brings_29 : decode cX11_brings 29 = .ok (.iload_n 1, 1) := by decide +kernel
theorem dX11_brings_30 : decode cX11_brings 30 = .ok (.invokevirtual 420, 3) := by decide +kernel
theorem dX11_brings_33 : decode cX11_brings 33 = .ok (.ladd, 1) := by decide +kernel
theorem dX11_brings_34 : decode cX11_brings 34 = .ok (.lstore_n 2, 1) := by decide +kernel
theorem dX11_brings_35 : decode cX11_brings 35 = .ok (.iinc 4 1, 3) := by decide +kernel
theorem dX11_brings_38 : decode cX11_brings 38 = .ok (.goto (-22), 3) := by decide +kernel
theorem dX11_brings_41 : decode cX11_brings 41 = .ok (.iconst 0, 1) := by decide +kernel
theorem dX11_brings_42 : decode cX11_brings 42 = .ok (.istore 4, 2) := by decide +kernel
theorem dX11_brings_44 : decode cX11_brings 44 = .ok (.iload 4, 2) := by decide +kernel
theorem dX11_brings_46 : decode cX11_brings 46 = .ok (.aload_n 0, 1) := by decide +kernel
theorem dX11_brings_47 : decode cX11_brings 47 = .ok (.getfield 126, 3) := by decide +kernel
theorem dX11_brings_50 : decode cX11_brings 50 = .ok (.if_icmp .ge 34, 3) := by decide +kernel
theorem dX11_brings_53 : decode cX11_brings 53 = .ok (.lload_n 2, 1) := by decide +kernel
theorem dX11_brings_54 : decode cX11_brings 54 = .ok (.aload_n 0, 1) := by decide +kernel
theorem dX11_brings_55 : decode cX11_brings 55 = .ok (.getfield 11, 3) := by decide +kernel
theorem dX11_brings_58 : decode cX11_brings 58 = .ok (.iload 4, 2) := by decide +kernel
theorem dX11_brings_60 : decode cX11_brings 60 = .ok (.iaload, 1) := by decide +kernel
theorem dX11_brings_61 : decode cX11_brings 61 = .ok (.iconst 1, 1) := by decide +kernel
theorem dX11_brings_62 : decode cX11_brings 62 = .ok (.if_icmp .ne 13, 3) := by decide +kernel
theorem dX11_brings_65 : decode cX11_brings 65 = .ok (.aload_n 0, 1) := by decide +kernel
theorem dX11_brings_66 : decode cX11_brings 66 = .ok (.iload 4, 2) := by decide +kernel
theorem dX11_brings_68 : decode cX11_brings 68 = .ok (.iload_n 1, 1) := by decide +kernel
theorem dX11_brings_69 : decode cX11_brings 69 = .ok (.invokevirtual 401, 3) := by decide +kernel
theorem dX11_brings_72 : decode cX11_brings 72 = .ok (.goto 4, 3) := by decide +kernel
theorem dX11_brings_75 : decode cX11_brings 75 = .ok (.lconst 0, 1) := by decide +kernel
theorem dX11_brings_76 : decode cX11_brings 76 = .ok (.lsub, 1) := by decide +kernel
theorem dX11_brings_77 : decode cX11_brings 77 = .ok (.lstore_n 2, 1) := by decide +kernel
theorem dX11_brings_78 : decode cX11_brings 78 = .ok (.iinc 4 1, 3) := by decide +kernel
theorem dX11_brings_81 : decode cX11_brings 81 = .ok (.goto (-37), 3) := by decide +kernel
theorem dX11_brings_84 : decode cX11_brings 84 = .ok (.lload_n 2, 1) := by decide +kernel
theorem dX11_brings_85 : decode cX11_brings 85 = .ok (.lreturn, 1) := by decide +kernel
set_option maxRecDepth 100000 in
theorem t_M_brings_J76 (hC : CX z ad x cX11_brings RX11 5 (some .long)) (hR : x.2.2.1 = rmk 622 0 0) (k_44 : MS → Int32 → Int64 → Int32 → Option (Int64 × MS)) (hk_44 : ∀ (σ : MS) (a1 : Int32) (a2 : Int64) (a4 : Int32), AT z x 5 (wM z τ) rJ (eqA ad) 0 0 0 0 ad 44 [(0, .ref 0), (1, .int a1), (2, .long a2), (4, .int a4)] [] σ (k_44 σ a1 a2 a4)) (σ : MS) (a1 : Int32) (a4 : Int32) (s0 : Int64) (s1 : Int64) : AT z x 5 (wM z τ) rJ (eqA ad) 0 0 0 0 ad 76 [(0, .ref 0), (1, .int a1), (4, .int a4)] [.long s0, .long s1] σ (M_brings_J76 k_44 σ a1 a4 s0 s1) := by
  unfold M_brings_J76
  refine at_lsub hC dX11_brings_76 ?_
  refine at_lstore_n (lv' := [(2, .long (s1 - s0)), (0, .ref 0), (1, .int a1), (4, .int a4)]) hC rfl dX11_brings_77 (by decide) rfl ?_
  refine at_iinc (j := 3) (v := a4 + 1) (lv' := [(4, .int (a4 + 1)), (2, .long (s1 - s0)), (0, .ref 0), (1, .int a1)]) hC dX11_brings_78 rfl rfl (by decide) rfl ?_
  refine at_goto (tgt := 44) hC dX11_brings_81 rfl ?_
  refine at_drop (lv' := [(0, .ref 0), (1, .int a1), (2, .long (s1 - s0)), (4, .int (a4 + 1))]) [2, 3, 1, 0] rfl ?_
  exact hk_44 σ a1 (s1 - s0) (a4 + 1)
set_option maxRecDepth 100000 in
theorem t_M_brings_L44 (hC : CX z ad x cX11_brings RX11 5 (some .long)) (hR : x.2.2.1 = rmk 622 0 0) (n : Nat) (σ : MS) (a1 : Int32) (a2 : Int64) (a4 : Int32) : AT z x 5 (wM z τ) rJ (eqA ad) 0 0 0 0 ad 44 [(0, .ref 0), (1, .int a1), (2, .long a2), (4, .int a4)] [] σ (M_brings_L44 n σ a1 a2 a4) := by
  revert σ a1 a2 a4
  show ∀ (σ : MS) (a1 : Int32) (a2 : Int64) (a4 : Int32), AT z x 5 (wM z τ) rJ (eqA ad) 0 0 0 0 ad 44 [(0, .ref 0), (1, .int a1), (2, .long a2), (4, .int a4)] [] σ (M_brings_L44_r n σ a1 a2 a4)
  induction n with
  | zero => intro σ a1 a2 a4; exact at_none
  | succ n hk_44 =>
    intro σ a1 a2 a4
    unfold M_brings_L44_r
    refine at_iload (j := 3) hC rfl dX11_brings_44 ?_
    refine at_aload_n (j := 0) hC rfl rfl dX11_brings_46 ?_
    refine gf_X11_126 hC dX11_brings_47 ?_
    refine at_icmp_ge (tgt := 84) hC dX11_brings_50 rfl (fun _ => ?_) (fun _ => ?_)
    · refine at_lload_n (j := 2) hC rfl rfl dX11_brings_84 ?_
      exact at_lret (F := eqA ad) (ra := rJ) hC dX11_brings_85 rfl (Nat.le_refl 0) (Nat.le_refl 0) rfl
    · refine at_lload_n (j := 2) hC rfl rfl dX11_brings_53 ?_
      refine at_aload_n (j := 0) hC rfl rfl dX11_brings_54 ?_
      refine gf_X11_11 hC dX11_brings_55 ?_
      refine at_iload (j := 3) hC rfl dX11_brings_58 ?_
      refine at_iald hC 1 dX11_brings_60 cl_1 (fun v3 => ?_)
      refine at_iconst hC ic_1 dX11_brings_61 ?_
      refine at_icmp_ne (tgt := 75) hC dX11_brings_62 rfl (fun _ => ?_) (fun _ => ?_)
      · refine at_lconst hC lc_0 dX11_brings_75 ?_
        refine at_drop (lv' := [(0, .ref 0), (1, .int a1), (4, .int a4)]) [0, 1, 3] rfl ?_
        exact t_M_brings_J76 hC hR (M_brings_L44_r n) hk_44 σ a1 a4 0 a2
      · refine at_aload_n (j := 0) hC rfl rfl dX11_brings_65 ?_
        refine at_iload (j := 3) hC rfl dX11_brings_66 ?_
        refine at_iload_n (j := 1) hC rfl rfl dX11_brings_68 ?_
        refine at_callVJ hC hR lk_X11_401 (c_M_rentOf σ a4 a1) dX11_brings_69 recX11 rfl rfl ⟨by decide, by decide⟩ (Nat.le_of_ble_eq_true rfl) ⟨Nat.le_refl 0, Nat.le_refl 0⟩ (fun r4 r4s _ => ?_)
        refine at_goto (tgt := 76) hC dX11_brings_72 rfl ?_
        refine at_drop (lv' := [(0, .ref 0), (1, .int a1), (4, .int a4)]) [0, 1, 3] rfl ?_
        exact t_M_brings_J76 hC hR (M_brings_L44_r n) hk_44 r4s a1 a4 r4 a2
set_option maxRecDepth 100000 in
theorem t_M_brings_L16 (hC : CX z ad x cX11_brings RX11 5 (some .long)) (hR : x.2.2.1 = rmk 622 0 0) (n : Nat) (σ : MS) (a1 : Int32) (a2 : Int64) (a4 : Int32) : AT z x 5 (wM z τ) rJ (eqA ad) 0 0 0 0 ad 16 [(0, .ref 0), (1, .int a1), (2, .long a2), (4, .int a4)] [] σ (M_brings_L16 n σ a1 a2 a4) := by
  revert σ a1 a2 a4
  show ∀ (σ : MS) (a1 : Int32) (a2 : Int64) (a4 : Int32), AT z x 5 (wM z τ) rJ (eqA ad) 0 0 0 0 ad 16 [(0, .ref 0), (1, .int a1), (2, .long a2), (4, .int a4)] [] σ (M_brings_L16_r n σ a1 a2 a4)
  induction n with
  | zero => intro σ a1 a2 a4; exact at_none
  | succ n hk_16 =>
    intro σ a1 a2 a4
    unfold M_brings_L16_r
    refine at_iload (j := 3) hC rfl dX11_brings_16 ?_
    refine at_aload_n (j := 0) hC rfl rfl dX11_brings_18 ?_
    refine gf_X11_417 hC dX11_brings_19 ?_
    refine at_icmp_ge (tgt := 41) hC dX11_brings_22 rfl (fun _ => ?_) (fun _ => ?_)
    · refine at_iconst hC ic_0 dX11_brings_41 ?_
      refine at_istore (lv' := [(4, .int 0), (0, .ref 0), (1, .int a1), (2, .long a2)]) hC dX11_brings_42 (by decide) rfl ?_
      refine at_drop (lv' := [(0, .ref 0), (1, .int a1), (2, .long a2), (4, .int 0)]) [1, 2, 3, 0] rfl ?_
      exact t_M_brings_L44 hC hR 100000 σ a1 a2 0
    · refine at_lload_n (j := 2) hC rfl rfl dX11_brings_25 ?_
      refine at_aload_n (j := 0) hC rfl rfl dX11_brings_26 ?_
      refine at_iload (j := 3) hC rfl dX11_brings_27 ?_
      refine at_iload_n (j := 1) hC rfl rfl dX11_brings_29 ?_
      refine at_callVpJ hC hR lk_X11_420 (c_M_comesOf σ a4 a1) dX11_brings_30 recX11 rfl rfl ⟨by decide, by decide⟩ (Nat.le_of_ble_eq_true rfl) ⟨Nat.le_refl 0, Nat.le_refl 0⟩ (fun r5 _ => ?_)
      refine at_ladd hC dX11_brings_33 ?_
      refine at_lstore_n (lv' := [(2, .long (a2 + r5)), (0, .ref 0), (1, .int a1), (4, .int a4)]) hC rfl dX11_brings_34 (by decide) rfl ?_
      refine at_iinc (j := 3) (v := a4 + 1) (lv' := [(4, .int (a4 + 1)), (2, .long (a2 + r5)), (0, .ref 0), (1, .int a1)]) hC dX11_brings_35 rfl rfl (by decide) rfl ?_
      refine at_goto (tgt := 16) hC dX11_brings_38 rfl ?_
      refine at_drop (lv' := [(0, .ref 0), (1, .int a1), (2, .long (a2 + r5)), (4, .int (a4 + 1))]) [2, 3, 1, 0] rfl ?_
      exact hk_16 σ a1 (a2 + r5) (a4 + 1)
set_option maxRecDepth 100000 in
theorem c_M_brings (σ : MS) (p0 : Int32) : Ct z (wM z τ) rJ eqA yX11_brings cX11_brings 5 (some .long) 622 0 0 [.ref 0, .int p0] σ (M_brings σ p0) := by
  refine Ct.of (by decide) (Nat.le_of_ble_eq_true rfl) (fun ad x hC hR _ => ?_)
  show AT z x 5 (wM z τ) rJ (eqA ad) 0 0 0 0 ad 0 [(0, .ref 0), (1, .int p0)] [] σ (M_brings σ p0)
  unfold M_brings
  refine at_aload_n (j := 0) hC rfl rfl dX11_brings_0 ?_
  refine at_iload_n (j := 1) hC rfl rfl dX11_brings_1 ?_
  refine at_callVJ hC hR lk_X11_388 (c_M_vacantOf σ p0) dX11_brings_2 recX11 rfl rfl ⟨by decide, by decide⟩ (Nat.le_of_ble_eq_true rfl) ⟨Nat.le_refl 0, Nat.le_refl 0⟩ (fun r1 r1s _ => ?_)
  refine at_aload_n (j := 0) hC rfl rfl dX11_brings_5 ?_
  refine at_iconst hC ic_m1 dX11_brings_6 ?_
  refine at_iload_n (j := 1) hC rfl rfl dX11_brings_7 ?_
  refine at_callVJ hC hR lk_X11_410 (c_M_sumOf r1s (-1) p0) dX11_brings_8 recX11 rfl rfl ⟨by decide, by decide⟩ (Nat.le_of_ble_eq_true rfl) ⟨Nat.le_refl 0, Nat.le_refl 0⟩ (fun r2 r2s _ => ?_)
  refine at_lsub hC dX11_brings_11 ?_
  refine at_lstore_n (lv' := [(2, .long (r1 - r2)), (0, .ref 0), (1, .int p0)]) hC rfl dX11_brings_12 (by decide) rfl ?_
  refine at_iconst hC ic_0 dX11_brings_13 ?_
  refine at_istore (lv' := [(4, .int 0), (2, .long (r1 - r2)), (0, .ref 0), (1, .int p0)]) hC dX11_brings_14 (by decide) rfl ?_
  refine at_drop (lv' := [(0, .ref 0), (1, .int p0), (2, .long (r1 - r2)), (4, .int 0)]) [2, 3, 1, 0] rfl ?_
  exact t_M_brings_L16 hC hR 100000 r2s p0 (r1 - r2) 0
theorem dX11_chestBehind_0 : decode cX11_chestBehind 0 = .ok (.aload_n 0, 1) := by decide +kernel
theorem dX11_chestBehind_1 : decode cX11_chestBehind 1 = .ok (.getfield 414, 3) := by decide +kernel
theorem dX11_chestBehind_4 : decode cX11_chestBehind 4 = .ok (.i2l, 1) := by decide +kernel
theorem dX11_chestBehind_5 : decode cX11_chestBehind 5 = .ok (.lstore_n 2, 1) := by decide +kernel
theorem dX11_chestBehind_6 : decode cX11_chestBehind 6 = .ok (.iconst 0, 1) := by decide +kernel
theorem dX11_chestBehind_7 : decode cX11_chestBehind 7 = .ok (.istore 4, 2) := by decide +kernel
theorem dX11_chestBehind_9 : decode cX11_chestBehind 9 = .ok (.iload 4, 2) := by decide +kernel
theorem dX11_chestBehind_11 : decode cX11_chestBehind 11 = .ok (.iload_n 1, 1) := by decide +kernel
theorem dX11_chestBehind_12 : decode cX11_chestBehind 12 = .ok (.if_icmp .gt 18, 3) := by decide +kernel
theorem dX11_chestBehind_15 : decode cX11_chestBehind 15 = .ok (.lload_n 2, 1) := by decide +kernel
theorem dX11_chestBehind_16 : decode cX11_chestBehind 16 = .ok (.aload_n 0, 1) := by decide +kernel
theorem dX11_chestBehind_17 : decode cX11_chestBehind 17 = .ok (.iload 4, 2) := by decide +kernel
theorem dX11_chestBehind_19 : decode cX11_chestBehind 19 = .ok (.invokevirtual 423, 3) := by decide +kernel
theorem dX11_chestBehind_22 : decode cX11_chestBehind 22 = .ok (.ladd, 1) := by decide +kernel
theorem dX11_chestBehind_23 : decode cX11_chestBehind 23 = .ok (.lstore_n 2, 1) := by decide +kernel
theorem dX11_chestBehind_24 : decode cX11_chestBehind 24 = .ok (.iinc 4 1, 3) := by decide +kernel
theorem dX11_chestBehind_27 : decode cX11_chestBehind 27 = .ok (.goto (-18), 3) := by decide +kernel
theorem dX11_chestBehind_30 : decode cX11_chestBehind 30 = .ok (.iconst 0, 1) := by decide +kernel
theorem dX11_chestBehind_31 : decode cX11_chestBehind 31 = .ok (.istore 4, 2) := by decide +kernel
theorem dX11_chestBehind_33 : decode cX11_chestBehind 33 = .ok (.iload 4, 2) := by decide +kernel
theorem dX11_chestBehind_35 : decode cX11_chestBehind 35 = .ok (.aload_n 0, 1) := by decide +kernel
theorem dX11_chestBehind_36 : decode cX11_chestBehind 36 = .ok (.getfield 140, 3) := by decide +kernel
theorem dX11_chestBehind_39 : decode cX11_chestBehind 39 = .ok (.if_icmp .ge 60, 3) := by decide +kernel
theorem dX11_chestBehind_42 : decode cX11_chestBehind 42 = .ok (.lload_n 2, 1) := by decide +kernel
theorem dX11_chestBehind_43 : decode cX11_chestBehind 43 = .ok (.aload_n 0, 1) := by decide +kernel
theorem dX11_chestBehind_44 : decode cX11_chestBehind 44 = .ok (.getfield 111, 3) := by decide +kernel
theorem dX11_chestBehind_47 : decode cX11_chestBehind 47 = .ok (.iload 4, 2) := by decide +kernel
theorem dX11_chestBehind_49 : decode cX11_chestBehind 49 = .ok (.baload, 1) := by decide +kernel
theorem dX11_chestBehind_50 : decode cX11_chestBehind 50 = .ok (.ifCond .eq 40, 3) := by decide +kernel
theorem dX11_chestBehind_53 : decode cX11_chestBehind 53 = .ok (.aload_n 0, 1) := by decide +kernel
theorem dX11_chestBehind_54 : decode cX11_chestBehind 54 = .ok (.getfield 24, 3) := by decide +kernel
theorem dX11_chestBehind_57 : decode cX11_chestBehind 57 = .ok (.iload 4, 2) := by decide +kernel
theorem dX11_chestBehind_59 : decode cX11_chestBehind 59 = .ok (.iaload, 1) := by decide +kernel
theorem dX11_chestBehind_60 : decode cX11_chestBehind 60 = .ok (.bipush 6, 2) := by decide +kernel
theorem dX11_chestBehind_62 : decode cX11_chestBehind 62 = .ok (.if_icmp .ne 28, 3) := by decide +kernel
theorem dX11_chestBehind_65 : decode cX11_chestBehind 65 = .ok (.aload_n 0, 1) := by decide +kernel
theorem dX11_chestBehind_66 : decode cX11_chestBehind 66 = .ok (.getfield 33, 3) := by decide +kernel
theorem dX11_chestBehind_69 : decode cX11_chestBehind 69 = .ok (.iload 4, 2) := by decide +kernel
theorem dX11_chestBehind_71 : decode cX11_chestBehind 71 = .ok (.iaload, 1) := by decide +kernel
theorem dX11_chestBehind_72 : decode cX11_chestBehind 72 = .ok (.invokestatic 363, 3) := by decide +kernel
theorem dX11_chestBehind_75 : decode cX11_chestBehind 75 = .ok (.iload_n 1, 1) := by decide +kernel
theorem dX11_chestBehind_76 : decode cX11_chestBehind 76 = .ok (.if_icmp .gt 14, 3) := by decide +kernel
theorem dX11_chestBehind_79 : decode cX11_chestBehind 79 = .ok (.aload_n 0, 1) := by decide +kernel
theorem dX11_chestBehind_80 : decode cX11_chestBehind 80 = .ok (.getfield 30, 3) := by decide +kernel
theorem dX11_chestBehind_83 : decode cX11_chestBehind 83 = .ok (.iload 4, 2) := by decide +kernel
theorem dX11_chestBehind_85 : decode cX11_chestBehind 85 = .ok (.iaload, 1) := by decide +kernel
theorem dX11_chestBehind_86 : decode cX11_chestBehind 86 = .ok (.i2l, 1) := by decide +kernel
theorem dX11_chestBehind_87 : decode cX11_chestBehind 87 = .ok (.goto 4, 3) := by decide +kernel
theorem dX11_chestBehind_90 : decode cX11_chestBehind 90 = .ok (.lconst 0, 1) := by decide +kernel
theorem dX11_chestBehind_91 : decode cX11_chestBehind 91 = .ok (.ladd, 1) := by decide +kernel
theorem dX11_chestBehind_92 : decode cX11_chestBehind 92 = .ok (.lstore_n 2, 1) := by decide +kernel
theorem dX11_chestBehind_93 : decode cX11_chestBehind 93 = .ok (.iinc 4 1, 3) := by decide +kernel
theorem dX11_chestBehind_96 : decode cX11_chestBehind 96 = .ok (.goto (-63), 3) := by decide +kernel
theorem dX11_chestBehind_99 : decode cX11_chestBehind 99 = .ok (.lload_n 2, 1) := by decide +kernel
theorem dX11_chestBehind_100 : decode cX11_chestBehind 100 = .ok (.lreturn, 1) := by decide +kernel
set_option maxRecDepth 100000 in
theorem t_M_chestBehind_J91 (hC : CX z ad x cX11_chestBehind RX11 5 (some .long)) (hR : x.2.2.1 = rmk 623 0 0) (k_33 : MS → Int32 → Int64 → Int32 → Option (Int64 × MS)) (hk_33 : ∀ (σ : MS) (a1 : Int32) (a2 : Int64) (a4 : Int32), AT z x 5 (wM z τ) rJ (eqA ad) 0 0 0 0 ad 33 [(0, .ref 0), (1, .int a1), (2, .long a2), (4, .int a4)] [] σ (k_33 σ a1 a2 a4)) (σ : MS) (a1 : Int32) (a4 : Int32) (s0 : Int64) (s1 : Int64) : AT z x 5 (wM z τ) rJ (eqA ad) 0 0 0 0 ad 91 [(0, .ref 0), (1, .int a1), (4, .int a4)] [.long s0, .long s1] σ (M_chestBehind_J91 k_33 σ a1 a4 s0 s1) := by
  unfold M_chestBehind_J91
  refine at_ladd hC dX11_chestBehind_91 ?_
  refine at_lstore_n (lv' := [(2, .long (s1 + s0)), (0, .ref 0), (1, .int a1), (4, .int a4)]) hC rfl dX11_chestBehind_92 (by decide) rfl ?_
  refine at_iinc (j := 3) (v := a4 + 1) (lv' := [(4, .int (a4 + 1)), (2, .long (s1 + s0)), (0, .ref 0), (1, .int a1)]) hC dX11_chestBehind_93 rfl rfl (by decide) rfl ?_
  refine at_goto (tgt := 33) hC dX11_chestBehind_96 rfl ?_
  refine at_drop (lv' := [(0, .ref 0), (1, .int a1), (2, .long (s1 + s0)), (4, .int (a4 + 1))]) [2, 3, 1, 0] rfl ?_
  exact hk_33 σ a1 (s1 + s0) (a4 + 1)
set_option maxRecDepth 100000 in
theorem t_M_chestBehind_J90 (hC : CX z ad x cX11_chestBehind RX11 5 (some .long)) (hR : x.2.2.1 = rmk 623 0 0) (k_33 : MS → Int32 → Int64 → Int32 → Option (Int64 × MS)) (hk_33 : ∀ (σ : MS) (a1 : Int32) (a2 : Int64) (a4 : Int32), AT z x 5 (wM z τ) rJ (eqA ad) 0 0 0 0 ad 33 [(0, .ref 0), (1, .int a1), (2, .long a2), (4, .int a4)] [] σ (k_33 σ a1 a2 a4)) (σ : MS) (a1 : Int32) (a4 : Int32) (s0 : Int64) : AT z x 5 (wM z τ) rJ (eqA ad) 0 0 0 0 ad 90 [(0, .ref 0), (1, .int a1), (4, .int a4)] [.long s0] σ (M_chestBehind_J90 k_33 σ a1 a4 s0) := by
  unfold M_chestBehind_J90
  refine at_lconst hC lc_0 dX11_chestBehind_90 ?_
  exact t_M_chestBehind_J91 hC hR k_33 hk_33 σ a1 a4 0 s0
set_option maxRecDepth 100000 in
theorem t_M_chestBehind_L33 (hC : CX z ad x cX11_chestBehind RX11 5 (some .long)) (hR : x.2.2.1 = rmk 623 0 0) (n : Nat) (σ : MS) (a1 : Int32) (a2 : Int64) (a4 : Int32) : AT z x 5 (wM z τ) rJ (eqA ad) 0 0 0 0 ad 33 [(0, .ref 0), (1, .int a1), (2, .long a2), (4, .int a4)] [] σ (M_chestBehind_L33 n σ a1 a2 a4) := by
  revert σ a1 a2 a4
  show ∀ (σ : MS) (a1 : Int32) (a2 : Int64) (a4 : Int32), AT z x 5 (wM z τ) rJ (eqA ad) 0 0 0 0 ad 33 [(0, .ref 0), (1, .int a1), (2, .long a2), (4, .int a4)] [] σ (M_chestBehind_L33_r n σ a1 a2 a4)
  induction n with
  | zero => intro σ a1 a2 a4; exact at_none
  | succ n hk_33 =>
    intro σ a1 a2 a4
    unfold M_chestBehind_L33_r
    refine at_iload (j := 3) hC rfl dX11_chestBehind_33 ?_
    refine at_aload_n (j := 0) hC rfl rfl dX11_chestBehind_35 ?_
    refine gf_X11_140 hC dX11_chestBehind_36 ?_
    refine at_icmp_ge (tgt := 99) hC dX11_chestBehind_39 rfl (fun _ => ?_) (fun _ => ?_)
    · refine at_lload_n (j := 2) hC rfl rfl dX11_chestBehind_99 ?_
      exact at_lret (F := eqA ad) (ra := rJ) hC dX11_chestBehind_100 rfl (Nat.le_refl 0) (Nat.le_refl 0) rfl
    · refine at_lload_n (j := 2) hC rfl rfl dX11_chestBehind_42 ?_
      refine at_aload_n (j := 0) hC rfl rfl dX11_chestBehind_43 ?_
      refine gf_X11_111 hC dX11_chestBehind_44 ?_
      refine at_iload (j := 3) hC rfl dX11_chestBehind_47 ?_
      refine at_zald hC 32 dX11_chestBehind_49 cl_32 (fun v1 => ?_)
      refine at_if_eq (tgt := 90) hC dX11_chestBehind_50 rfl (fun _ => ?_) (fun _ => ?_)
      · refine at_drop (lv' := [(0, .ref 0), (1, .int a1), (4, .int a4)]) [0, 1, 3] rfl ?_
        exact t_M_chestBehind_J90 hC hR (M_chestBehind_L33_r n) hk_33 σ a1 a4 a2
      · refine at_aload_n (j := 0) hC rfl rfl dX11_chestBehind_53 ?_
        refine gf_X11_24 hC dX11_chestBehind_54 ?_
        refine at_iload (j := 3) hC rfl dX11_chestBehind_57 ?_
        refine at_iald hC 5 dX11_chestBehind_59 cl_5 (fun v2 => ?_)
        refine at_bipush hC bi_6 dX11_chestBehind_60 ?_
        refine at_icmp_ne (tgt := 90) hC dX11_chestBehind_62 rfl (fun _ => ?_) (fun _ => ?_)
        · refine at_drop (lv' := [(0, .ref 0), (1, .int a1), (4, .int a4)]) [0, 1, 3] rfl ?_
          exact t_M_chestBehind_J90 hC hR (M_chestBehind_L33_r n) hk_33 σ a1 a4 a2
        · refine at_aload_n (j := 0) hC rfl rfl dX11_chestBehind_65 ?_
          refine gf_X11_33 hC dX11_chestBehind_66 ?_
          refine at_iload (j := 3) hC rfl dX11_chestBehind_69 ?_
          refine at_iald hC 8 dX11_chestBehind_71 cl_8 (fun v3 => ?_)
          refine at_callSpI hC hR lk_X11_363 (c_M_yearOf σ v3) dX11_chestBehind_72 rfl rfl ⟨by decide, by decide⟩ (Nat.le_of_ble_eq_true rfl) ⟨Nat.le_refl 0, Nat.le_refl 0⟩ (fun r4 _ => ?_)
          refine at_iload_n (j := 1) hC rfl rfl dX11_chestBehind_75 ?_
          refine at_icmp_gt (tgt := 90) hC dX11_chestBehind_76 rfl (fun _ => ?_) (fun _ => ?_)
          · refine at_drop (lv' := [(0, .ref 0), (1, .int a1), (4, .int a4)]) [0, 1, 3] rfl ?_
            exact t_M_chestBehind_J90 hC hR (M_chestBehind_L33_r n) hk_33 σ a1 a4 a2
          · refine at_aload_n (j := 0) hC rfl rfl dX11_chestBehind_79 ?_
            refine gf_X11_30 hC dX11_chestBehind_80 ?_
            refine at_iload (j := 3) hC rfl dX11_chestBehind_83 ?_
            refine at_iald hC 7 dX11_chestBehind_85 cl_7 (fun v5 => ?_)
            refine at_i2l hC dX11_chestBehind_86 ?_
            refine at_goto (tgt := 91) hC dX11_chestBehind_87 rfl ?_
            refine at_drop (lv' := [(0, .ref 0), (1, .int a1), (4, .int a4)]) [0, 1, 3] rfl ?_
            exact t_M_chestBehind_J91 hC hR (M_chestBehind_L33_r n) hk_33 σ a1 a4 v5.toInt64 a2
set_option maxRecDepth 100000 in
theorem t_M_chestBehind_L9 (hC : CX z ad x cX11_chestBehind RX11 5 (some .long)) (hR : x.2.2.1 = rmk 623 0 0) (n : Nat) (σ : MS) (a1 : Int32) (a2 : Int64) (a4 : Int32) : AT z x 5 (wM z τ) rJ (eqA ad) 0 0 0 0 ad 9 [(0, .ref 0), (1, .int a1), (2, .long a2), (4, .int a4)] [] σ (M_chestBehind_L9 n σ a1 a2 a4) := by
  revert σ a1 a2 a4
  show ∀ (σ : MS) (a1 : Int32) (a2 : Int64) (a4 : Int32), AT z x 5 (wM z τ) rJ (eqA ad) 0 0 0 0 ad 9 [(0, .ref 0), (1, .int a1), (2, .long a2), (4, .int a4)] [] σ (M_chestBehind_L9_r n σ a1 a2 a4)
  induction n with
  | zero => intro σ a1 a2 a4; exact at_none
  | succ n hk_9 =>
    intro σ a1 a2 a4
    unfold M_chestBehind_L9_r
    refine at_iload (j := 3) hC rfl dX11_chestBehind_9 ?_
    refine at_iload_n (j := 1) hC rfl rfl dX11_chestBehind_11 ?_
    refine at_icmp_gt (tgt := 30) hC dX11_chestBehind_12 rfl (fun _ => ?_) (fun _ => ?_)
    · refine at_iconst hC ic_0 dX11_chestBehind_30 ?_
      refine at_istore (lv' := [(4, .int 0), (0, .ref 0), (1, .int a1), (2, .long a2)]) hC dX11_chestBehind_31 (by decide) rfl ?_
      refine at_drop (lv' := [(0, .ref 0), (1, .int a1), (2, .long a2), (4, .int 0)]) [1, 2, 3, 0] rfl ?_
      exact t_M_chestBehind_L33 hC hR 100000 σ a1 a2 0
    · refine at_lload_n (j := 2) hC rfl rfl dX11_chestBehind_15 ?_
      refine at_aload_n (j := 0) hC rfl rfl dX11_chestBehind_16 ?_
      refine at_iload (j := 3) hC rfl dX11_chestBehind_17 ?_
      refine at_callVJ hC hR lk_X11_423 (c_M_brings σ a4) dX11_chestBehind_19 recX11 rfl rfl ⟨by decide, by decide⟩ (Nat.le_of_ble_eq_true rfl) ⟨Nat.le_refl 0, Nat.le_refl 0⟩ (fun r6 r6s _ => ?_)
      refine at_ladd hC dX11_chestBehind_22 ?_
      refine at_lstore_n (lv' := [(2, .long (a2 + r6)), (0, .ref 0), (1, .int a1), (4, .int a4)]) hC rfl dX11_chestBehind_23 (by decide) rfl ?_
      refine at_iinc (j := 3) (v := a4 + 1) (lv' := [(4, .int (a4 + 1)), (2, .long (a2 + r6)), (0, .ref 0), (1, .int a1)]) hC dX11_chestBehind_24 rfl rfl (by decide) rfl ?_
      refine at_goto (tgt := 9) hC dX11_chestBehind_27 rfl ?_
      refine at_drop (lv' := [(0, .ref 0), (1, .int a1), (2, .long (a2 + r6)), (4, .int (a4 + 1))]) [2, 3, 1, 0] rfl ?_
      exact hk_9 r6s a1 (a2 + r6) (a4 + 1)
set_option maxRecDepth 100000 in
theorem c_M_chestBehind (σ : MS) (p0 : Int32) : Ct z (wM z τ) rJ eqA yX11_chestBehind cX11_chestBehind 5 (some .long) 623 0 0 [.ref 0, .int p0] σ (M_chestBehind σ p0) := by
  refine Ct.of (by decide) (Nat.le_of_ble_eq_true rfl) (fun ad x hC hR _ => ?_)
  show AT z x 5 (wM z τ) rJ (eqA ad) 0 0 0 0 ad 0 [(0, .ref 0), (1, .int p0)] [] σ (M_chestBehind σ p0)
  unfold M_chestBehind
  refine at_aload_n (j := 0) hC rfl rfl dX11_chestBehind_0 ?_
  refine gf_X11_414 hC dX11_chestBehind_1 ?_
  refine at_i2l hC dX11_chestBehind_4 ?_
  refine at_lstore_n (lv' := [(2, .long ((σ.1 26).toInt64)), (0, .ref 0), (1, .int p0)]) hC rfl dX11_chestBehind_5 (by decide) rfl ?_
  refine at_iconst hC ic_0 dX11_chestBehind_6 ?_
  refine at_istore (lv' := [(4, .int 0), (2, .long ((σ.1 26).toInt64)), (0, .ref 0), (1, .int p0)]) hC dX11_chestBehind_7 (by decide) rfl ?_
  refine at_drop (lv' := [(0, .ref 0), (1, .int p0), (2, .long ((σ.1 26).toInt64)), (4, .int 0)]) [2, 3, 1, 0] rfl ?_
  exact t_M_chestBehind_L9 hC hR 100000 σ p0 ((σ.1 26).toInt64) 0
theorem dX11_chest_0 : decode cX11_chest 0 = .ok (.iload_n 1, 1) := by decide +kernel
theorem dX11_chest_1 : decode cX11_chest 1 = .ok (.invokestatic 379, 3) := by decide +kernel
theorem dX11_chest_4 : decode cX11_chest 4 = .ok (.ifCond .eq 11, 3) := by decide +kernel
theorem dX11_chest_7 : decode cX11_chest 7 = .ok (.aload_n 0, 1) := by decide +kernel
theorem dX11_chest_8 : decode cX11_chest 8 = .ok (.iload_n 2, 1) := by decide +kernel
theorem dX11_chest_9 : decode cX11_chest 9 = .ok (.invokevirtual 212, 3) := by decide +kernel
theorem dX11_chest_12 : decode cX11_chest 12 = .ok (.ifCond .ne 7, 3) := by decide +kernel
theorem dX11_chest_15 : decode cX11_chest 15 = .ok (.ldc2_w 382, 3) := by decide +kernel
theorem dX11_chest_18 : decode cX11_chest 18 = .ok (.lreturn, 1) := by decide +kernel
theorem dX11_chest_19 : decode cX11_chest 19 = .ok (.aload_n 0, 1) := by decide +kernel
theorem dX11_chest_20 : decode cX11_chest 20 = .ok (.iload_n 2, 1) := by decide +kernel
theorem dX11_chest_21 : decode cX11_chest 21 = .ok (.invokevirtual 143, 3) := by decide +kernel
theorem dX11_chest_24 : decode cX11_chest 24 = .ok (.aload_n 0, 1) := by decide +kernel
theorem dX11_chest_25 : decode cX11_chest 25 = .ok (.iload_n 1, 1) := by decide +kernel
theorem dX11_chest_26 : decode cX11_chest 26 = .ok (.invokevirtual 426, 3) := by decide +kernel
theorem dX11_chest_29 : decode cX11_chest 29 = .ok (.lreturn, 1) := by decide +kernel
set_option maxRecDepth 100000 in
theorem c_M_chest (σ : MS) (p0 : Int32) (p1 : Int32) : Ct z (wM z τ) rJ eqA yX11_chest cX11_chest 3 (some .long) 624 0 0 [.ref 0, .int p0, .int p1] σ (M_chest σ p0 p1) := by
  refine Ct.of (by decide) (Nat.le_of_ble_eq_true rfl) (fun ad x hC hR _ => ?_)
  show AT z x 3 (wM z τ) rJ (eqA ad) 0 0 0 0 ad 0 [(0, .ref 0), (1, .int p0), (2, .int p1)] [] σ (M_chest σ p0 p1)
  unfold M_chest
  refine at_iload_n (j := 1) hC rfl rfl dX11_chest_0 ?_
  refine at_callSpI hC hR lk_X11_379 (c_M_isYear σ p0) dX11_chest_1 rfl rfl ⟨by decide, by decide⟩ (Nat.le_of_ble_eq_true rfl) ⟨Nat.le_refl 0, Nat.le_refl 0⟩ (fun r1 _ => ?_)
  refine at_if_eq (tgt := 15) hC dX11_chest_4 rfl (fun _ => ?_) (fun _ => ?_)
  · refine at_ldc2 hC kl_X11_382 dX11_chest_15 ?_
    exact at_lret (F := eqA ad) (ra := rJ) hC dX11_chest_18 rfl (Nat.le_refl 0) (Nat.le_refl 0) rfl
  · refine at_aload_n (j := 0) hC rfl rfl dX11_chest_7 ?_
    refine at_iload_n (j := 2) hC rfl rfl dX11_chest_8 ?_
    refine at_callVpI hC hR lk_X11_212 (c_M_isBy σ p1) dX11_chest_9 recX11 rfl rfl ⟨by decide, by decide⟩ (Nat.le_of_ble_eq_true rfl) ⟨Nat.le_refl 0, Nat.le_refl 0⟩ (fun r2 _ => ?_)
    refine at_if_ne (tgt := 19) hC dX11_chest_12 rfl (fun _ => ?_) (fun _ => ?_)
    · refine at_aload_n (j := 0) hC rfl rfl dX11_chest_19 ?_
      refine at_iload_n (j := 2) hC rfl rfl dX11_chest_20 ?_
      refine at_callVU hC hR lk_X11_143 (c_M_looks σ p1) dX11_chest_21 recX11 rfl rfl ⟨by decide, by decide⟩ (Nat.le_of_ble_eq_true rfl) ⟨Nat.le_refl 0, Nat.le_refl 0⟩ (fun r3 r3s _ => ?_)
      refine at_aload_n (j := 0) hC rfl rfl dX11_chest_24 ?_
      refine at_iload_n (j := 1) hC rfl rfl dX11_chest_25 ?_
      refine at_callVJ hC hR lk_X11_426 (c_M_chestBehind r3s p0) dX11_chest_26 recX11 rfl rfl ⟨by decide, by decide⟩ (Nat.le_of_ble_eq_true rfl) ⟨Nat.le_refl 0, Nat.le_refl 0⟩ (fun r4 r4s _ => ?_)
      exact at_lret (F := eqA ad) (ra := rJ) hC dX11_chest_29 rfl (Nat.le_refl 0) (Nat.le_refl 0) rfl
    · refine at_ldc2 hC kl_X11_382 dX11_chest_15 ?_
      exact at_lret (F := eqA ad) (ra := rJ) hC dX11_chest_18 rfl (Nat.le_refl 0) (Nat.le_refl 0) rfl
theorem dX11_loan_0 : decode cX11_loan 0 = .ok (.iload_n 1, 1) := by decide +kernel
theorem dX11_loan_1 : decode cX11_loan 1 = .ok (.iconst 1, 1) := by decide +kernel
theorem dX11_loan_2 : decode cX11_loan 2 = .ok (.sipush 9999, 3) := by decide +kernel
theorem dX11_loan_5 : decode cX11_loan 5 = .ok (.invokestatic 129, 3) := by decide +kernel
theorem dX11_loan_8 : decode cX11_loan 8 = .ok (.ifCond .eq 31, 3) := by decide +kernel
theorem dX11_loan_11 : decode cX11_loan 11 = .ok (.iload_n 2, 1) := by decide +kernel
theorem dX11_loan_12 : decode cX11_loan 12 = .ok (.invokestatic 379, 3) := by decide +kernel
theorem dX11_loan_15 : decode cX11_loan 15 = .ok (.ifCond .eq 24, 3) := by decide +kernel
theorem dX11_loan_18 : decode cX11_loan 18 = .ok (.iload_n 3, 1) := by decide +kernel
theorem dX11_loan_19 : decode cX11_loan 19 = .ok (.iconst 1, 1) := by decide +kernel
theorem dX11_loan_20 : decode cX11_loan 20 = .ok (.bipush 30, 2) := by decide +kernel
theorem dX11_loan_22 : decode cX11_loan 22 = .ok (.invokestatic 129, 3) := by decide +kernel
theorem dX11_loan_25 : decode cX11_loan 25 = .ok (.ifCond .eq 14, 3) := by decide +kernel
theorem dX11_loan_28 : decode cX11_loan 28 = .ok (.iload 4, 2) := by decide +kernel
theorem dX11_loan_30 : decode cX11_loan 30 = .ok (.iconst 0, 1) := by decide +kernel
theorem dX11_loan_31 : decode cX11_loan 31 = .ok (.bipush 20, 2) := by decide +kernel
theorem dX11_loan_33 : decode cX11_loan 33 = .ok (.invokestatic 129, 3) := by decide +kernel
theorem dX11_loan_36 : decode cX11_loan 36 = .ok (.ifCond .ne 6, 3) := by decide +kernel
theorem dX11_loan_39 : decode cX11_loan 39 = .ok (.bipush (-2), 2) := by decide +kernel
theorem dX11_loan_41 : decode cX11_loan 41 = .ok (.ireturn, 1) := by decide +kernel
theorem dX11_loan_42 : decode cX11_loan 42 = .ok (.aload_n 0, 1) := by decide +kernel
theorem dX11_loan_43 : decode cX11_loan 43 = .ok (.getfield 417, 3) := by decide +kernel
theorem dX11_loan_46 : decode cX11_loan 46 = .ok (.bipush 12, 2) := by decide +kernel
theorem dX11_loan_48 : decode cX11_loan 48 = .ok (.if_icmp .ne 6, 3) := by decide +kernel
theorem dX11_loan_51 : decode cX11_loan 51 = .ok (.bipush (-4), 2) := by decide +kernel
theorem dX11_loan_53 : decode cX11_loan 53 = .ok (.ireturn, 1) := by decide +kernel
theorem dX11_loan_54 : decode cX11_loan 54 = .ok (.aload_n 0, 1) := by decide +kernel
theorem dX11_loan_55 : decode cX11_loan 55 = .ok (.getfield 70, 3) := by decide +kernel
theorem dX11_loan_58 : decode cX11_loan 58 = .ok (.aload_n 0, 1) := by decide +kernel
theorem dX11_loan_59 : decode cX11_loan 59 = .ok (.getfield 417, 3) := by decide +kernel
theorem dX11_loan_62 : decode cX11_loan 62 = .ok (.iload_n 1, 1) := by decide +kernel
theorem dX11_loan_63 : decode cX11_loan 63 = .ok (.iastore, 1) := by decide +kernel
theorem dX11_loan_64 : decode cX11_loan 64 = .ok (.aload_n 0, 1) := by decide +kernel
theorem dX11_loan_65 : decode cX11_loan 65 = .ok (.getfield 73, 3) := by decide +kernel
theorem dX11_loan_68 : decode cX11_loan 68 = .ok (.aload_n 0, 1) := by decide +kernel
theorem dX11_loan_69 : decode cX11_loan 69 = .ok (.getfield 417, 3) := by decide +kernel
theorem dX11_loan_72 : decode cX11_loan 72 = .ok (.iload_n 2, 1) := by decide +kernel
theorem dX11_loan_73 : decode cX11_loan 73 = .ok (.iastore, 1) := by decide +kernel
theorem dX11_loan_74 : decode cX11_loan 74 = .ok (.aload_n 0, 1) := by decide +kernel
theorem dX11_loan_75 : decode cX11_loan 75 = .ok (.getfield 76, 3) := by decide +kernel
theorem dX11_loan_78 : decode cX11_loan 78 = .ok (.aload_n 0, 1) := by decide +kernel
theorem dX11_loan_79 : decode cX11_loan 79 = .ok (.getfield 417, 3) := by decide +kernel
theorem dX11_loan_82 : decode cX11_loan 82 = .ok (.iload_n 3, 1) := by decide +kernel
theorem dX11_loan_83 : decode cX11_loan 83 = .ok (.iastore, 1) := by decide +kernel
theorem dX11_loan_84 : decode cX11_loan 84 = .ok (.aload_n 0, 1) := by decide +kernel
theorem dX11_loan_85 : decode cX11_loan 85 = .ok (.getfield 79, 3) := by decide +kernel
theorem dX11_loan_88 : decode cX11_loan 88 = .ok (.aload_n 0, 1) := by decide +kernel
theorem dX11_loan_89 : decode cX11_loan 89 = .ok (.getfield 417, 3) := by decide +kernel
theorem dX11_loan_92 : decode cX11_loan 92 = .ok (.iload 4, 2) := by decide +kernel
theorem dX11_loan_94 : decode cX11_loan 94 = .ok (.iastore, 1) := by decide +kernel
theorem dX11_loan_95 : decode cX11_loan 95 = .ok (.aload_n 0, 1) := by decide +kernel
theorem dX11_loan_96 : decode cX11_loan 96 = .ok (.getfield 82, 3) := by decide +kernel
theorem dX11_loan_99 : decode cX11_loan 99 = .ok (.aload_n 0, 1) := by decide +kernel
theorem dX11_loan_100 : decode cX11_loan 100 = .ok (.getfield 417, 3) := by decide +kernel
theorem dX11_loan_103 : decode cX11_loan 103 = .ok (.sipush 10000, 3) := by decide +kernel
theorem dX11_loan_106 : decode cX11_loan 106 = .ok (.iastore, 1) := by decide +kernel
theorem dX11_loan_107 : decode cX11_loan 107 = .ok (.aload_n 0, 1) := by decide +kernel
theorem dX11_loan_108 : decode cX11_loan 108 = .ok (.dup, 1) := by decide +kernel
theorem dX11_loan_109 : decode cX11_loan 109 = .ok (.getfield 417, 3) := by decide +kernel
theorem dX11_loan_112 : decode cX11_loan 112 = .ok (.iconst 1, 1) := by decide +kernel
theorem dX11_loan_113 : decode cX11_loan 113 = .ok (.iadd, 1) := by decide +kernel
theorem dX11_loan_114 : decode cX11_loan 114 = .ok (.putfield 417, 3) := by decide +kernel
theorem dX11_loan_117 : decode cX11_loan 117 = .ok (.aload_n 0, 1) := by decide +kernel
theorem dX11_loan_118 : decode cX11_loan 118 = .ok (.getfield 417, 3) := by decide +kernel
theorem dX11_loan_121 : decode cX11_loan 121 = .ok (.iconst 1, 1) := by decide +kernel
theorem dX11_loan_122 : decode cX11_loan 122 = .ok (.isub, 1) := by decide +kernel
theorem dX11_loan_123 : decode cX11_loan 123 = .ok (.ireturn, 1) := by decide +kernel
set_option maxRecDepth 100000 in
theorem c_M_loan (σ : MS) (p0 : Int32) (p1 : Int32) (p2 : Int32) (p3 : Int32) : Ct z (wM z τ) rI eqA yX11_loan cX11_loan 5 (some .int) 3 0 0 [.ref 0, .int p0, .int p1, .int p2, .int p3] σ (M_loan σ p0 p1 p2 p3) := by
  refine Ct.of (by decide) (Nat.le_of_ble_eq_true rfl) (fun ad x hC hR _ => ?_)
  show AT z x 5 (wM z τ) rI (eqA ad) 0 0 0 0 ad 0 [(0, .ref 0), (1, .int p0), (2, .int p1), (3, .int p2), (4, .int p3)] [] σ (M_loan σ p0 p1 p2 p3)
  unfold M_loan
  refine at_iload_n (j := 1) hC rfl rfl dX11_loan_0 ?_
  refine at_iconst hC ic_1 dX11_loan_1 ?_
  refine at_sipush hC si_9999 dX11_loan_2 ?_
  refine at_callSpI hC hR lk_X11_129 (c_M_in σ p0 1 9999) dX11_loan_5 rfl rfl ⟨by decide, by decide⟩ (Nat.le_of_ble_eq_true rfl) ⟨Nat.le_refl 0, Nat.le_refl 0⟩ (fun r1 _ => ?_)
  refine at_if_eq (tgt := 39) hC dX11_loan_8 rfl (fun _ => ?_) (fun _ => ?_)
  · refine at_bipush hC bi_m2 dX11_loan_39 ?_
    exact at_iret (F := eqA ad) (ra := rI) hC dX11_loan_41 rfl (Nat.le_refl 0) (Nat.le_refl 0) rfl
  · refine at_iload_n (j := 2) hC rfl rfl dX11_loan_11 ?_
    refine at_callSpI hC hR lk_X11_379 (c_M_isYear σ p1) dX11_loan_12 rfl rfl ⟨by decide, by decide⟩ (Nat.le_of_ble_eq_true rfl) ⟨Nat.le_refl 0, Nat.le_refl 0⟩ (fun r2 _ => ?_)
    refine at_if_eq (tgt := 39) hC dX11_loan_15 rfl (fun _ => ?_) (fun _ => ?_)
    · refine at_bipush hC bi_m2 dX11_loan_39 ?_
      exact at_iret (F := eqA ad) (ra := rI) hC dX11_loan_41 rfl (Nat.le_refl 0) (Nat.le_refl 0) rfl
    · refine at_iload_n (j := 3) hC rfl rfl dX11_loan_18 ?_
      refine at_iconst hC ic_1 dX11_loan_19 ?_
      refine at_bipush hC bi_30 dX11_loan_20 ?_
      refine at_callSpI hC hR lk_X11_129 (c_M_in σ p2 1 30) dX11_loan_22 rfl rfl ⟨by decide, by decide⟩ (Nat.le_of_ble_eq_true rfl) ⟨Nat.le_refl 0, Nat.le_refl 0⟩ (fun r3 _ => ?_)
      refine at_if_eq (tgt := 39) hC dX11_loan_25 rfl (fun _ => ?_) (fun _ => ?_)
      · refine at_bipush hC bi_m2 dX11_loan_39 ?_
        exact at_iret (F := eqA ad) (ra := rI) hC dX11_loan_41 rfl (Nat.le_refl 0) (Nat.le_refl 0) rfl
      · refine at_iload (j := 4) hC rfl dX11_loan_28 ?_
        refine at_iconst hC ic_0 dX11_loan_30 ?_
        refine at_bipush hC bi_20 dX11_loan_31 ?_
        refine at_callSpI hC hR lk_X11_129 (c_M_in σ p3 0 20) dX11_loan_33 rfl rfl ⟨by decide, by decide⟩ (Nat.le_of_ble_eq_true rfl) ⟨Nat.le_refl 0, Nat.le_refl 0⟩ (fun r4 _ => ?_)
        refine at_if_ne (tgt := 42) hC dX11_loan_36 rfl (fun _ => ?_) (fun _ => ?_)
        · refine at_aload_n (j := 0) hC rfl rfl dX11_loan_42 ?_
          refine gf_X11_417 hC dX11_loan_43 ?_
          refine at_bipush hC bi_12 dX11_loan_46 ?_
          refine at_icmp_ne (tgt := 54) hC dX11_loan_48 rfl (fun _ => ?_) (fun _ => ?_)
          · refine at_aload_n (j := 0) hC rfl rfl dX11_loan_54 ?_
            refine gf_X11_70 hC dX11_loan_55 ?_
            refine at_aload_n (j := 0) hC rfl rfl dX11_loan_58 ?_
            refine gf_X11_417 hC dX11_loan_59 ?_
            refine at_iload_n (j := 1) hC rfl rfl dX11_loan_62 ?_
            refine at_iast hC 20 dX11_loan_63 cl_20 st_20 ?_
            refine at_aload_n (j := 0) hC rfl rfl dX11_loan_64 ?_
            refine gf_X11_73 hC dX11_loan_65 ?_
            refine at_aload_n (j := 0) hC rfl rfl dX11_loan_68 ?_
            refine gf_X11_417 hC dX11_loan_69 ?_
            refine at_iload_n (j := 2) hC rfl rfl dX11_loan_72 ?_
            refine at_iast hC 21 dX11_loan_73 cl_21 st_21 ?_
            refine at_aload_n (j := 0) hC rfl rfl dX11_loan_74 ?_
            refine gf_X11_76 hC dX11_loan_75 ?_
            refine at_aload_n (j := 0) hC rfl rfl dX11_loan_78 ?_
            refine gf_X11_417 hC dX11_loan_79 ?_
            refine at_iload_n (j := 3) hC rfl rfl dX11_loan_82 ?_
            refine at_iast hC 22 dX11_loan_83 cl_22 st_22 ?_
            refine at_aload_n (j := 0) hC rfl rfl dX11_loan_84 ?_
            refine gf_X11_79 hC dX11_loan_85 ?_
            refine at_aload_n (j := 0) hC rfl rfl dX11_loan_88 ?_
            refine gf_X11_417 hC dX11_loan_89 ?_
            refine at_iload (j := 4) hC rfl dX11_loan_92 ?_
            refine at_iast hC 23 dX11_loan_94 cl_23 st_23 ?_
            refine at_aload_n (j := 0) hC rfl rfl dX11_loan_95 ?_
            refine gf_X11_82 hC dX11_loan_96 ?_
            refine at_aload_n (j := 0) hC rfl rfl dX11_loan_99 ?_
            refine gf_X11_417 hC dX11_loan_100 ?_
            refine at_sipush hC si_10000 dX11_loan_103 ?_
            refine at_iast hC 24 dX11_loan_106 cl_24 st_24 ?_
            refine at_aload_n (j := 0) hC rfl rfl dX11_loan_107 ?_
            refine at_dup hC rfl dX11_loan_108 ?_
            refine gf_X11_417 hC dX11_loan_109 ?_
            refine at_iconst hC ic_1 dX11_loan_112 ?_
            refine at_iadd hC dX11_loan_113 ?_
            refine pf_X11_417 hC dX11_loan_114 ?_
            refine at_aload_n (j := 0) hC rfl rfl dX11_loan_117 ?_
            refine gf_X11_417 hC dX11_loan_118 ?_
            refine at_iconst hC ic_1 dX11_loan_121 ?_
            refine at_isub hC dX11_loan_122 ?_
            exact at_iret (F := eqA ad) (ra := rI) hC dX11_loan_123 rfl (Nat.le_refl 0) (Nat.le_refl 0) rfl
          · refine at_bipush hC bi_m4 dX11_loan_51 ?_
            exact at_iret (F := eqA ad) (ra := rI) hC dX11_loan_53 rfl (Nat.le_refl 0) (Nat.le_refl 0) rfl
        · refine at_bipush hC bi_m2 dX11_loan_39 ?_
          exact at_iret (F := eqA ad) (ra := rI) hC dX11_loan_41 rfl (Nat.le_refl 0) (Nat.le_refl 0) rfl
theorem dX11_bad_0 : decode cX11_bad 0 = .ok (.iload_n 1, 1) := by decide +kernel
theorem dX11_bad_1 : decode cX11_bad 1 = .ok (.iconst 0, 1) := by decide +kernel
theorem dX11_bad_2 : decode cX11_bad 2 = .ok (.aload_n 0, 1) := by decide +kernel
theorem dX11_bad_3 : decode cX11_bad 3 = .ok (.getfield 417, 3) := by decide +kernel
theorem dX11_bad_6 : decode cX11_bad 6 = .ok (.iconst 1, 1) := by decide +kernel
theorem dX11_bad_7 : decode cX11_bad 7 = .ok (.isub, 1) := by decide +kernel
theorem dX11_bad_8 : decode cX11_bad 8 = .ok (.invokestatic 129, 3) := by decide +kernel
theorem dX11_bad_11 : decode cX11_bad 11 = .ok (.ifCond .ne 5, 3) := by decide +kernel
theorem dX11_bad_14 : decode cX11_bad 14 = .ok (.iconst (-1), 1) := by decide +kernel
theorem dX11_bad_15 : decode cX11_bad 15 = .ok (.ireturn, 1) := by decide +kernel
theorem dX11_bad_16 : decode cX11_bad 16 = .ok (.iload_n 2, 1) := by decide +kernel
theorem dX11_bad_17 : decode cX11_bad 17 = .ok (.invokestatic 379, 3) := by decide +kernel
theorem dX11_bad_20 : decode cX11_bad 20 = .ok (.ifCond .ne 6, 3) := by decide +kernel
theorem dX11_bad_23 : decode cX11_bad 23 = .ok (.bipush (-2), 2) := by decide +kernel
theorem dX11_bad_25 : decode cX11_bad 25 = .ok (.ireturn, 1) := by decide +kernel
theorem dX11_bad_26 : decode cX11_bad 26 = .ok (.aload_n 0, 1) := by decide +kernel
theorem dX11_bad_27 : decode cX11_bad 27 = .ok (.getfield 82, 3) := by decide +kernel
theorem dX11_bad_30 : decode cX11_bad 30 = .ok (.iload_n 1, 1) := by decide +kernel
theorem dX11_bad_31 : decode cX11_bad 31 = .ok (.iaload, 1) := by decide +kernel
theorem dX11_bad_32 : decode cX11_bad 32 = .ok (.istore_n 3, 1) := by decide +kernel
theorem dX11_bad_33 : decode cX11_bad 33 = .ok (.aload_n 0, 1) := by decide +kernel
theorem dX11_bad_34 : decode cX11_bad 34 = .ok (.getfield 82, 3) := by decide +kernel
theorem dX11_bad_37 : decode cX11_bad 37 = .ok (.iload_n 1, 1) := by decide +kernel
theorem dX11_bad_38 : decode cX11_bad 38 = .ok (.iload_n 2, 1) := by decide +kernel
theorem dX11_bad_39 : decode cX11_bad 39 = .ok (.iload_n 3, 1) := by decide +kernel
theorem dX11_bad_40 : decode cX11_bad 40 = .ok (.if_icmp .ge 7, 3) := by decide +kernel
theorem dX11_bad_43 : decode cX11_bad 43 = .ok (.iload_n 2, 1) := by decide +kernel
theorem dX11_bad_44 : decode cX11_bad 44 = .ok (.goto 4, 3) := by decide +kernel
theorem dX11_bad_47 : decode cX11_bad 47 = .ok (.iload_n 3, 1) := by decide +kernel
theorem dX11_bad_48 : decode cX11_bad 48 = .ok (.iastore, 1) := by decide +kernel
theorem dX11_bad_49 : decode cX11_bad 49 = .ok (.iload_n 3, 1) := by decide +kernel
theorem dX11_bad_50 : decode cX11_bad 50 = .ok (.sipush 10000, 3) := by decide +kernel
theorem dX11_bad_53 : decode cX11_bad 53 = .ok (.if_icmp .ne 7, 3) := by decide +kernel
theorem dX11_bad_56 : decode cX11_bad 56 = .ok (.iconst 1, 1) := by decide +kernel
theorem dX11_bad_57 : decode cX11_bad 57 = .ok (.goto 4, 3) := by decide +kernel
theorem dX11_bad_60 : decode cX11_bad 60 = .ok (.iconst 0, 1) := by decide +kernel
theorem dX11_bad_61 : decode cX11_bad 61 = .ok (.ireturn, 1) := by decide +kernel
set_option maxRecDepth 100000 in
theorem t_M_bad_J48 (hC : CX z ad x cX11_bad RX11 4 (some .int)) (hR : x.2.2.1 = rmk 3 0 0) (σ : MS) (a3 : Int32) (s0 : Int32) (s1 : Int32) : AT z x 4 (wM z τ) rI (eqA ad) 0 0 0 0 ad 48 [(3, .int a3)] [.int s0, .int s1, .ref 24] σ (M_bad_J48 σ a3 s0 s1) := by
  unfold M_bad_J48
  refine at_iast hC 24 dX11_bad_48 cl_24 st_24 ?_
  refine at_iload_n (j := 0) hC rfl rfl dX11_bad_49 ?_
  refine at_sipush hC si_10000 dX11_bad_50 ?_
  refine at_icmp_ne (tgt := 60) hC dX11_bad_53 rfl (fun _ => ?_) (fun _ => ?_)
  · refine at_iconst hC ic_0 dX11_bad_60 ?_
    exact at_iret (F := eqA ad) (ra := rI) hC dX11_bad_61 rfl (Nat.le_refl 0) (Nat.le_refl 0) rfl
  · refine at_iconst hC ic_1 dX11_bad_56 ?_
    refine at_goto (tgt := 61) hC dX11_bad_57 rfl ?_
    exact at_iret (F := eqA ad) (ra := rI) hC dX11_bad_61 rfl (Nat.le_refl 0) (Nat.le_refl 0) rfl
set_option maxRecDepth 100000 in
theorem c_M_bad (σ : MS) (p0 : Int32) (p1 : Int32) : Ct z (wM z τ) rI eqA yX11_bad cX11_bad 4 (some .int) 3 0 0 [.ref 0, .int p0, .int p1] σ (M_bad σ p0 p1) := by
  refine Ct.of (by decide) (Nat.le_of_ble_eq_true rfl) (fun ad x hC hR _ => ?_)
  show AT z x 4 (wM z τ) rI (eqA ad) 0 0 0 0 ad 0 [(0, .ref 0), (1, .int p0), (2, .int p1)] [] σ (M_bad σ p0 p1)
  unfold M_bad
  refine at_iload_n (j := 1) hC rfl rfl dX11_bad_0 ?_
  refine at_iconst hC ic_0 dX11_bad_1 ?_
  refine at_aload_n (j := 0) hC rfl rfl dX11_bad_2 ?_
  refine gf_X11_417 hC dX11_bad_3 ?_
  refine at_iconst hC ic_1 dX11_bad_6 ?_
  refine at_isub hC dX11_bad_7 ?_
  refine at_callSpI hC hR lk_X11_129 (c_M_in σ p0 0 ((σ.1 27) - 1)) dX11_bad_8 rfl rfl ⟨by decide, by decide⟩ (Nat.le_of_ble_eq_true rfl) ⟨Nat.le_refl 0, Nat.le_refl 0⟩ (fun r1 _ => ?_)
  refine at_if_ne (tgt := 16) hC dX11_bad_11 rfl (fun _ => ?_) (fun _ => ?_)
  · refine at_iload_n (j := 2) hC rfl rfl dX11_bad_16 ?_
    refine at_callSpI hC hR lk_X11_379 (c_M_isYear σ p1) dX11_bad_17 rfl rfl ⟨by decide, by decide⟩ (Nat.le_of_ble_eq_true rfl) ⟨Nat.le_refl 0, Nat.le_refl 0⟩ (fun r2 _ => ?_)
    refine at_if_ne (tgt := 26) hC dX11_bad_20 rfl (fun _ => ?_) (fun _ => ?_)
    · refine at_aload_n (j := 0) hC rfl rfl dX11_bad_26 ?_
      refine gf_X11_82 hC dX11_bad_27 ?_
      refine at_iload_n (j := 1) hC rfl rfl dX11_bad_30 ?_
      refine at_iald hC 24 dX11_bad_31 cl_24 (fun v3 => ?_)
      refine at_istore_n (lv' := [(3, .int v3), (0, .ref 0), (1, .int p0), (2, .int p1)]) hC rfl dX11_bad_32 (by decide) rfl ?_
      refine at_aload_n (j := 1) hC rfl rfl dX11_bad_33 ?_
      refine gf_X11_82 hC dX11_bad_34 ?_
      refine at_iload_n (j := 2) hC rfl rfl dX11_bad_37 ?_
      refine at_iload_n (j := 3) hC rfl rfl dX11_bad_38 ?_
      refine at_iload_n (j := 0) hC rfl rfl dX11_bad_39 ?_
      refine at_icmp_ge (tgt := 47) hC dX11_bad_40 rfl (fun _ => ?_) (fun _ => ?_)
      · refine at_iload_n (j := 0) hC rfl rfl dX11_bad_47 ?_
        refine at_drop (lv' := [(3, .int v3)]) [0] rfl ?_
        exact t_M_bad_J48 hC hR σ v3 v3 p0
      · refine at_iload_n (j := 3) hC rfl rfl dX11_bad_43 ?_
        refine at_goto (tgt := 48) hC dX11_bad_44 rfl ?_
        refine at_drop (lv' := [(3, .int v3)]) [0] rfl ?_
        exact t_M_bad_J48 hC hR σ v3 p1 p0
    · refine at_bipush hC bi_m2 dX11_bad_23 ?_
      exact at_iret (F := eqA ad) (ra := rI) hC dX11_bad_25 rfl (Nat.le_refl 0) (Nat.le_refl 0) rfl
  · refine at_iconst hC ic_m1 dX11_bad_14 ?_
    exact at_iret (F := eqA ad) (ra := rI) hC dX11_bad_15 rfl (Nat.le_refl 0) (Nat.le_refl 0) rfl
theorem dX11_due_0 : decode cX11_due 0 = .ok (.iload_n 1, 1) := by decide +kernel
theorem dX11_due_1 : decode cX11_due 1 = .ok (.iconst 0, 1) := by decide +kernel
theorem dX11_due_2 : decode cX11_due 2 = .ok (.aload_n 0, 1) := by decide +kernel
theorem dX11_due_3 : decode cX11_due 3 = .ok (.getfield 417, 3) := by decide +kernel
theorem dX11_due_6 : decode cX11_due 6 = .ok (.iconst 1, 1) := by decide +kernel
theorem dX11_due_7 : decode cX11_due 7 = .ok (.isub, 1) := by decide +kernel
theorem dX11_due_8 : decode cX11_due 8 = .ok (.invokestatic 129, 3) := by decide +kernel
theorem dX11_due_11 : decode cX11_due 11 = .ok (.ifCond .eq 19, 3) := by decide +kernel
theorem dX11_due_14 : decode cX11_due 14 = .ok (.iload_n 2, 1) := by decide +kernel
theorem dX11_due_15 : decode cX11_due 15 = .ok (.invokestatic 379, 3) := by decide +kernel
theorem dX11_due_18 : decode cX11_due 18 = .ok (.ifCond .eq 12, 3) := by decide +kernel
theorem dX11_due_21 : decode cX11_due 21 = .ok (.aload_n 0, 1) := by decide +kernel
theorem dX11_due_22 : decode cX11_due 22 = .ok (.iload_n 1, 1) := by decide +kernel
theorem dX11_due_23 : decode cX11_due 23 = .ok (.iload_n 2, 1) := by decide +kernel
theorem dX11_due_24 : decode cX11_due 24 = .ok (.invokevirtual 420, 3) := by decide +kernel
theorem dX11_due_27 : decode cX11_due 27 = .ok (.goto 6, 3) := by decide +kernel
theorem dX11_due_30 : decode cX11_due 30 = .ok (.ldc2_w 382, 3) := by decide +kernel
theorem dX11_due_33 : decode cX11_due 33 = .ok (.lreturn, 1) := by decide +kernel
set_option maxRecDepth 100000 in
theorem c_M_due (σ : MS) (p0 : Int32) (p1 : Int32) : Ct z (wM z τ) rJ eqA yX11_due cX11_due 3 (some .long) 3 0 0 [.ref 0, .int p0, .int p1] σ ((M_due σ p0 p1).map fun r => (r, σ)) := by
  refine Ct.of (by decide) (Nat.le_of_ble_eq_true rfl) (fun ad x hC hR _ => ?_)
  show AT z x 3 (wM z τ) rJ (eqA ad) 0 0 0 0 ad 0 [(0, .ref 0), (1, .int p0), (2, .int p1)] [] σ ((M_due σ p0 p1).map fun r => (r, σ))
  unfold M_due
  refine at_iload_n (j := 1) hC rfl rfl dX11_due_0 ?_
  refine at_iconst hC ic_0 dX11_due_1 ?_
  refine at_aload_n (j := 0) hC rfl rfl dX11_due_2 ?_
  refine gf_X11_417 hC dX11_due_3 ?_
  refine at_iconst hC ic_1 dX11_due_6 ?_
  refine at_isub hC dX11_due_7 ?_
  refine ap_callSI hC hR lk_X11_129 (c_M_in σ p0 0 ((σ.1 27) - 1)) dX11_due_8 rfl rfl ⟨by decide, by decide⟩ (Nat.le_of_ble_eq_true rfl) ⟨Nat.le_refl 0, Nat.le_refl 0⟩ (fun r1 _ => ?_)
  refine ap_if_eq (tgt := 30) hC dX11_due_11 rfl (fun _ => ?_) (fun _ => ?_)
  · refine at_ldc2 hC kl_X11_382 dX11_due_30 ?_
    exact at_lret (F := eqA ad) (ra := rJ) hC dX11_due_33 rfl (Nat.le_refl 0) (Nat.le_refl 0) rfl
  · refine at_iload_n (j := 2) hC rfl rfl dX11_due_14 ?_
    refine ap_callSI hC hR lk_X11_379 (c_M_isYear σ p1) dX11_due_15 rfl rfl ⟨by decide, by decide⟩ (Nat.le_of_ble_eq_true rfl) ⟨Nat.le_refl 0, Nat.le_refl 0⟩ (fun r2 _ => ?_)
    refine ap_if_eq (tgt := 30) hC dX11_due_18 rfl (fun _ => ?_) (fun _ => ?_)
    · refine at_ldc2 hC kl_X11_382 dX11_due_30 ?_
      exact at_lret (F := eqA ad) (ra := rJ) hC dX11_due_33 rfl (Nat.le_refl 0) (Nat.le_refl 0) rfl
    · refine at_aload_n (j := 0) hC rfl rfl dX11_due_21 ?_
      refine at_iload_n (j := 1) hC rfl rfl dX11_due_22 ?_
      refine at_iload_n (j := 2) hC rfl rfl dX11_due_23 ?_
      refine ap_callVJ hC hR lk_X11_420 (c_M_comesOf σ p0 p1) dX11_due_24 recX11 rfl rfl ⟨by decide, by decide⟩ (Nat.le_of_ble_eq_true rfl) ⟨Nat.le_refl 0, Nat.le_refl 0⟩ (fun r3 _ => ?_)
      refine at_goto (tgt := 33) hC dX11_due_27 rfl ?_
      exact at_lret (F := eqA ad) (ra := rJ) hC dX11_due_33 rfl (Nat.le_refl 0) (Nat.le_refl 0) rfl
theorem dX11_table_0 : decode cX11_table 0 = .ok (.iload_n 1, 1) := by decide +kernel
theorem dX11_table_1 : decode cX11_table 1 = .ok (.iconst 0, 1) := by decide +kernel
theorem dX11_table_2 : decode cX11_table 2 = .ok (.bipush 98, 2) := by decide +kernel
theorem dX11_table_4 : decode cX11_table 4 = .ok (.invokestatic 129, 3) := by decide +kernel
theorem dX11_table_7 : decode cX11_table 7 = .ok (.ifCond .ne 5, 3) := by decide +kernel
theorem dX11_table_10 : decode cX11_table 10 = .ok (.iconst (-1), 1) := by decide +kernel
theorem dX11_table_11 : decode cX11_table 11 = .ok (.ireturn, 1) := by decide +kernel
theorem dX11_table_12 : decode cX11_table 12 = .ok (.iload_n 2, 1) := by decide +kernel
theorem dX11_table_13 : decode cX11_table 13 = .ok (.iconst 0, 1) := by decide +kernel
theorem dX11_table_14 : decode cX11_table 14 = .ok (.sipush 1000, 3) := by decide +kernel
theorem dX11_table_17 : decode cX11_table 17 = .ok (.invokestatic 129, 3) := by decide +kernel
theorem dX11_table_20 : decode cX11_table 20 = .ok (.ifCond .ne 6, 3) := by decide +kernel
theorem dX11_table_23 : decode cX11_table 23 = .ok (.bipush (-2), 2) := by decide +kernel
theorem dX11_table_25 : decode cX11_table 25 = .ok (.ireturn, 1) := by decide +kernel
theorem dX11_table_26 : decode cX11_table 26 = .ok (.aload_n 0, 1) := by decide +kernel
theorem dX11_table_27 : decode cX11_table 27 = .ok (.getfield 85, 3) := by decide +kernel
theorem dX11_table_30 : decode cX11_table 30 = .ok (.iload_n 1, 1) := by decide +kernel
theorem dX11_table_31 : decode cX11_table 31 = .ok (.iaload, 1) := by decide +kernel
theorem dX11_table_32 : decode cX11_table 32 = .ok (.istore_n 3, 1) := by decide +kernel
theorem dX11_table_33 : decode cX11_table 33 = .ok (.aload_n 0, 1) := by decide +kernel
theorem dX11_table_34 : decode cX11_table 34 = .ok (.getfield 85, 3) := by decide +kernel
theorem dX11_table_37 : decode cX11_table 37 = .ok (.iload_n 1, 1) := by decide +kernel
theorem dX11_table_38 : decode cX11_table 38 = .ok (.iload_n 2, 1) := by decide +kernel
theorem dX11_table_39 : decode cX11_table 39 = .ok (.iastore, 1) := by decide +kernel
theorem dX11_table_40 : decode cX11_table 40 = .ok (.iload_n 3, 1) := by decide +kernel
theorem dX11_table_41 : decode cX11_table 41 = .ok (.ireturn, 1) := by decide +kernel
set_option maxRecDepth 100000 in
theorem c_M_table (σ : MS) (p0 : Int32) (p1 : Int32) : Ct z (wM z τ) rI eqA yX11_table cX11_table 4 (some .int) 2 0 0 [.ref 0, .int p0, .int p1] σ (M_table σ p0 p1) := by
  refine Ct.of (by decide) (Nat.le_of_ble_eq_true rfl) (fun ad x hC hR _ => ?_)
  show AT z x 4 (wM z τ) rI (eqA ad) 0 0 0 0 ad 0 [(0, .ref 0), (1, .int p0), (2, .int p1)] [] σ (M_table σ p0 p1)
  unfold M_table
  refine at_iload_n (j := 1) hC rfl rfl dX11_table_0 ?_
  refine at_iconst hC ic_0 dX11_table_1 ?_
  refine at_bipush hC bi_98 dX11_table_2 ?_
  refine at_callSpI hC hR lk_X11_129 (c_M_in σ p0 0 98) dX11_table_4 rfl rfl ⟨by decide, by decide⟩ (Nat.le_of_ble_eq_true rfl) ⟨Nat.le_refl 0, Nat.le_refl 0⟩ (fun r1 _ => ?_)
  refine at_if_ne (tgt := 12) hC dX11_table_7 rfl (fun _ => ?_) (fun _ => ?_)
  · refine at_iload_n (j := 2) hC rfl rfl dX11_table_12 ?_
    refine at_iconst hC ic_0 dX11_table_13 ?_
    refine at_sipush hC si_1000 dX11_table_14 ?_
    refine at_callSpI hC hR lk_X11_129 (c_M_in σ p1 0 1000) dX11_table_17 rfl rfl ⟨by decide, by decide⟩ (Nat.le_of_ble_eq_true rfl) ⟨Nat.le_refl 0, Nat.le_refl 0⟩ (fun r2 _ => ?_)
    refine at_if_ne (tgt := 26) hC dX11_table_20 rfl (fun _ => ?_) (fun _ => ?_)
    · refine at_aload_n (j := 0) hC rfl rfl dX11_table_26 ?_
      refine gf_X11_85 hC dX11_table_27 ?_
      refine at_iload_n (j := 1) hC rfl rfl dX11_table_30 ?_
      refine at_iald hC 25 dX11_table_31 cl_25 (fun v3 => ?_)
      refine at_istore_n (lv' := [(3, .int v3), (0, .ref 0), (1, .int p0), (2, .int p1)]) hC rfl dX11_table_32 (by decide) rfl ?_
      refine at_aload_n (j := 1) hC rfl rfl dX11_table_33 ?_
      refine gf_X11_85 hC dX11_table_34 ?_
      refine at_iload_n (j := 2) hC rfl rfl dX11_table_37 ?_
      refine at_iload_n (j := 3) hC rfl rfl dX11_table_38 ?_
      refine at_iast hC 25 dX11_table_39 cl_25 st_25 ?_
      refine at_iload_n (j := 0) hC rfl rfl dX11_table_40 ?_
      exact at_iret (F := eqA ad) (ra := rI) hC dX11_table_41 rfl (Nat.le_refl 0) (Nat.le_refl 0) rfl
    · refine at_bipush hC bi_m2 dX11_table_23 ?_
      exact at_iret (F := eqA ad) (ra := rI) hC dX11_table_25 rfl (Nat.le_refl 0) (Nat.le_refl 0) rfl
  · refine at_iconst hC ic_m1 dX11_table_10 ?_
    exact at_iret (F := eqA ad) (ra := rI) hC dX11_table_11 rfl (Nat.le_refl 0) (Nat.le_refl 0) rfl
end G
