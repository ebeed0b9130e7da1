section G
variable {z : ZZ} {x : XX} {ad : Nat → Nat} {τ : XS}
theorem dX11_rentOf_0 : decode cX11_rentOf 0 = .ok (.lconst 0, 1) := by decide +kernel
theorem dX11_rentOf_1 : decode cX11_rentOf 1 = .ok (.lstore_n 3, 1) := by decide +kernel
theorem dX11_rentOf_2 : decode cX11_rentOf 2 = .ok (.bipush 100, 2) := by decide +kernel
theorem dX11_rentOf_4 : decode cX11_rentOf 4 = .ok (.iload_n 2, 1) := by decide +kernel
theorem dX11_rentOf_5 : decode cX11_rentOf 5 = .ok (.imul, 1) := by decide +kernel
theorem dX11_rentOf_6 : decode cX11_rentOf 6 = .ok (.istore 5, 2) := by decide +kernel
theorem dX11_rentOf_8 : decode cX11_rentOf 8 = .ok (.iload 5, 2) := by decide +kernel
theorem dX11_rentOf_10 : decode cX11_rentOf 10 = .ok (.bipush 100, 2) := by decide +kernel
theorem dX11_rentOf_12 : decode cX11_rentOf 12 = .ok (.iload_n 2, 1) := by decide +kernel
theorem dX11_rentOf_13 : decode cX11_rentOf 13 = .ok (.imul, 1) := by decide +kernel
theorem dX11_rentOf_14 : decode cX11_rentOf 14 = .ok (.bipush 100, 2) := by decide +kernel
theorem dX11_rentOf_16 : decode cX11_rentOf 16 = .ok (.iadd, 1) := by decide +kernel
theorem dX11_rentOf_17 : decode cX11_rentOf 17 = .ok (.if_icmp .ge 62, 3) := by decide +kernel
theorem dX11_rentOf_20 : decode cX11_rentOf 20 = .ok (.aload_n 0, 1) := by decide +kernel
theorem dX11_rentOf_21 : decode cX11_rentOf 21 = .ok (.iload 5, 2) := by decide +kernel
theorem dX11_rentOf_23 : decode cX11_rentOf 23 = .ok (.invokevirtual 392, 3) := by decide +kernel
theorem dX11_rentOf_26 : decode cX11_rentOf 26 = .ok (.istore 6, 2) := by decide +kernel
theorem dX11_rentOf_28 : decode cX11_rentOf 28 = .ok (.iload 6, 2) := by decide +kernel
theorem dX11_rentOf_30 : decode cX11_rentOf 30 = .ok (.bipush 100, 2) := by decide +kernel
theorem dX11_rentOf_32 : decode cX11_rentOf 32 = .ok (.iload_n 2, 1) := by decide +kernel
theorem dX11_rentOf_33 : decode cX11_rentOf 33 = .ok (.imul, 1) := by decide +kernel
theorem dX11_rentOf_34 : decode cX11_rentOf 34 = .ok (.bipush 100, 2) := by decide +kernel
theorem dX11_rentOf_36 : decode cX11_rentOf 36 = .ok (.iadd, 1) := by decide +kernel
theorem dX11_rentOf_37 : decode cX11_rentOf 37 = .ok (.if_icmp .ge 8, 3) := by decide +kernel
theorem dX11_rentOf_40 : decode cX11_rentOf 40 = .ok (.iload 6, 2) := by decide +kernel
theorem dX11_rentOf_42 : decode cX11_rentOf 42 = .ok (.goto 10, 3) := by decide +kernel
theorem dX11_rentOf_45 : decode cX11_rentOf 45 = .ok (.bipush 100, 2) := by decide +kernel
theorem dX11_rentOf_47 : decode cX11_rentOf 47 = .ok (.iload_n 2, 1) := by decide +kernel
theorem dX11_rentOf_48 : decode cX11_rentOf 48 = .ok (.imul, 1) := by decide +kernel
theorem dX11_rentOf_49 : decode cX11_rentOf 49 = .ok (.bipush 100, 2) := by decide +kernel
theorem dX11_rentOf_51 : decode cX11_rentOf 51 = .ok (.iadd, 1) := by decide +kernel
theorem dX11_rentOf_52 : decode cX11_rentOf 52 = .ok (.istore 7, 2) := by decide +kernel
theorem dX11_rentOf_54 : decode cX11_rentOf 54 = .ok (.lload_n 3, 1) := by decide +kernel
theorem dX11_rentOf_55 : decode cX11_rentOf 55 = .ok (.aload_n 0, 1) := by decide +kernel
theorem dX11_rentOf_56 : decode cX11_rentOf 56 = .ok (.iload_n 1, 1) := by decide +kernel
theorem dX11_rentOf_57 : decode cX11_rentOf 57 = .ok (.iload 5, 2) := by decide +kernel
theorem dX11_rentOf_59 : decode cX11_rentOf 59 = .ok (.invokevirtual 395, 3) := by decide +kernel
theorem dX11_rentOf_62 : decode cX11_rentOf 62 = .ok (.i2l, 1) := by decide +kernel
theorem dX11_rentOf_63 : decode cX11_rentOf 63 = .ok (.iload 7, 2) := by decide +kernel
theorem dX11_rentOf_65 : decode cX11_rentOf 65 = .ok (.iload 5, 2) := by decide +kernel
theorem dX11_rentOf_67 : decode cX11_rentOf 67 = .ok (.isub, 1) := by decide +kernel
theorem dX11_rentOf_68 : decode cX11_rentOf 68 = .ok (.i2l, 1) := by decide +kernel
theorem dX11_rentOf_69 : decode cX11_rentOf 69 = .ok (.lmul, 1) := by decide +kernel
theorem dX11_rentOf_70 : decode cX11_rentOf 70 = .ok (.ladd, 1) := by decide +kernel
theorem dX11_rentOf_71 : decode cX11_rentOf 71 = .ok (.lstore_n 3, 1) := by decide +kernel
theorem dX11_rentOf_72 : decode cX11_rentOf 72 = .ok (.iload 7, 2) := by decide +kernel
theorem dX11_rentOf_74 : decode cX11_rentOf 74 = .ok (.istore 5, 2) := by decide +kernel
theorem dX11_rentOf_76 : decode cX11_rentOf 76 = .ok (.goto (-68), 3) := by decide +kernel
theorem dX11_rentOf_79 : decode cX11_rentOf 79 = .ok (.lload_n 3, 1) := by decide +kernel
theorem dX11_rentOf_80 : decode cX11_rentOf 80 = .ok (.ldc2_w 375, 3) := by decide +kernel
theorem dX11_rentOf_83 : decode cX11_rentOf 83 = .ok (.ldiv, 1) := by decide +kernel
theorem dX11_rentOf_84 : decode cX11_rentOf 84 = .ok (.lreturn, 1) := by decide +kernel
set_option maxRecDepth 100000 in
theorem t_M_rentOf_J52 (hC : CX z ad x cX11_rentOf RX11 8 (some .long)) (hR : x.2.2.1 = rmk 621 0 0) (k_8 : MS → Int32 → Int32 → Int64 → Int32 → Option (Int64 × MS)) (hk_8 : ∀ (σ : MS) (a1 : Int32) (a2 : Int32) (a3 : Int64) (a5 : Int32), AT z x 8 (wM z τ) rJ (eqA ad) 0 0 0 0 ad 8 [(0, .ref 0), (1, .int a1), (2, .int a2), (3, .long a3), (5, .int a5)] [] σ (k_8 σ a1 a2 a3 a5)) (σ : MS) (a1 : Int32) (a2 : Int32) (a3 : Int64) (a5 : Int32) (s0 : Int32) : AT z x 8 (wM z τ) rJ (eqA ad) 0 0 0 0 ad 52 [(0, .ref 0), (1, .int a1), (2, .int a2), (3, .long a3), (5, .int a5)] [.int s0] σ (M_rentOf_J52 k_8 σ a1 a2 a3 a5 s0) := by
  unfold M_rentOf_J52
  refine at_istore (lv' := [(7, .int s0), (0, .ref 0), (1, .int a1), (2, .int a2), (3, .long a3), (5, .int a5)]) hC dX11_rentOf_52 (by decide) rfl ?_
  refine at_lload_n (j := 4) hC rfl rfl dX11_rentOf_54 ?_
  refine at_aload_n (j := 1) hC rfl rfl dX11_rentOf_55 ?_
  refine at_iload_n (j := 2) hC rfl rfl dX11_rentOf_56 ?_
  refine at_iload (j := 5) hC rfl dX11_rentOf_57 ?_
  refine at_callVI hC hR lk_X11_395 (c_M_rentOn σ a1 a5) dX11_rentOf_59 recX11 rfl rfl ⟨by decide, by decide⟩ (Nat.le_of_ble_eq_true rfl) ⟨Nat.le_refl 0, Nat.le_refl 0⟩ (fun r2 r2s _ => ?_)
  refine at_i2l hC dX11_rentOf_62 ?_
  refine at_iload (j := 0) hC rfl dX11_rentOf_63 ?_
  refine at_iload (j := 5) hC rfl dX11_rentOf_65 ?_
  refine at_isub hC dX11_rentOf_67 ?_
  refine at_i2l hC dX11_rentOf_68 ?_
  refine at_lmul hC dX11_rentOf_69 ?_
  refine at_ladd hC dX11_rentOf_70 ?_
  refine at_lstore_n (lv' := [(3, .long (a3 + (r2.toInt64 * ((s0 - a5).toInt64)))), (7, .int s0), (0, .ref 0), (1, .int a1), (2, .int a2), (5, .int a5)]) hC rfl dX11_rentOf_71 (by decide) rfl ?_
  refine at_iload (j := 1) hC rfl dX11_rentOf_72 ?_
  refine at_istore (lv' := [(5, .int s0), (3, .long (a3 + (r2.toInt64 * ((s0 - a5).toInt64)))), (7, .int s0), (0, .ref 0), (1, .int a1), (2, .int a2)]) hC dX11_rentOf_74 (by decide) rfl ?_
  refine at_goto (tgt := 8) hC dX11_rentOf_76 rfl ?_
  refine at_drop (lv' := [(0, .ref 0), (1, .int a1), (2, .int a2), (3, .long (a3 + (r2.toInt64 * ((s0 - a5).toInt64)))), (5, .int s0)]) [3, 4, 5, 1, 0] rfl ?_
  exact hk_8 r2s a1 a2 (a3 + (r2.toInt64 * ((s0 - a5).toInt64))) s0
set_option maxRecDepth 100000 in
theorem t_M_rentOf_L8 (hC : CX z ad x cX11_rentOf RX11 8 (some .long)) (hR : x.2.2.1 = rmk 621 0 0) (n : Nat) (σ : MS) (a1 : Int32) (a2 : Int32) (a3 : Int64) (a5 : Int32) : AT z x 8 (wM z τ) rJ (eqA ad) 0 0 0 0 ad 8 [(0, .ref 0), (1, .int a1), (2, .int a2), (3, .long a3), (5, .int a5)] [] σ (M_rentOf_L8 n σ a1 a2 a3 a5) := by
  revert σ a1 a2 a3 a5
  show ∀ (σ : MS) (a1 : Int32) (a2 : Int32) (a3 : Int64) (a5 : Int32), AT z x 8 (wM z τ) rJ (eqA ad) 0 0 0 0 ad 8 [(0, .ref 0), (1, .int a1), (2, .int a2), (3, .long a3), (5, .int a5)] [] σ (M_rentOf_L8_r n σ a1 a2 a3 a5)
  induction n with
  | zero => intro σ a1 a2 a3 a5; exact at_none
  | succ n hk_8 =>
    intro σ a1 a2 a3 a5
    unfold M_rentOf_L8_r
    refine at_iload (j := 4) hC rfl dX11_rentOf_8 ?_
    refine at_bipush hC bi_100 dX11_rentOf_10 ?_
    refine at_iload_n (j := 2) hC rfl rfl dX11_rentOf_12 ?_
    refine at_imul hC dX11_rentOf_13 ?_
    refine at_bipush hC bi_100 dX11_rentOf_14 ?_
    refine at_iadd hC dX11_rentOf_16 ?_
    refine at_icmp_ge (tgt := 79) hC dX11_rentOf_17 rfl (fun _ => ?_) (fun _ => ?_)
    · refine at_lload_n (j := 3) hC rfl rfl dX11_rentOf_79 ?_
      refine at_ldc2 hC kl_X11_375 dX11_rentOf_80 ?_
      refine at_ldiv hC (by decide) dX11_rentOf_83 ?_
      exact at_lret (F := eqA ad) (ra := rJ) hC dX11_rentOf_84 rfl (Nat.le_refl 0) (Nat.le_refl 0) rfl
    · refine at_aload_n (j := 0) hC rfl rfl dX11_rentOf_20 ?_
      refine at_iload (j := 4) hC rfl dX11_rentOf_21 ?_
      refine at_callVpI hC hR lk_X11_392 (c_M_nextChange σ a5) dX11_rentOf_23 recX11 rfl rfl ⟨by decide, by decide⟩ (Nat.le_of_ble_eq_true rfl) ⟨Nat.le_refl 0, Nat.le_refl 0⟩ (fun r1 _ => ?_)
      refine at_istore (lv' := [(6, .int r1), (0, .ref 0), (1, .int a1), (2, .int a2), (3, .long a3), (5, .int a5)]) hC dX11_rentOf_26 (by decide) rfl ?_
      refine at_iload (j := 0) hC rfl dX11_rentOf_28 ?_
      refine at_bipush hC bi_100 dX11_rentOf_30 ?_
      refine at_iload_n (j := 3) hC rfl rfl dX11_rentOf_32 ?_
      refine at_imul hC dX11_rentOf_33 ?_
      refine at_bipush hC bi_100 dX11_rentOf_34 ?_
      refine at_iadd hC dX11_rentOf_36 ?_
      refine at_icmp_ge (tgt := 45) hC dX11_rentOf_37 rfl (fun _ => ?_) (fun _ => ?_)
      · refine at_bipush hC bi_100 dX11_rentOf_45 ?_
        refine at_iload_n (j := 3) hC rfl rfl dX11_rentOf_47 ?_
        refine at_imul hC dX11_rentOf_48 ?_
        refine at_bipush hC bi_100 dX11_rentOf_49 ?_
        refine at_iadd hC dX11_rentOf_51 ?_
        refine at_drop (lv' := [(0, .ref 0), (1, .int a1), (2, .int a2), (3, .long a3), (5, .int a5)]) [1, 2, 3, 4, 5] rfl ?_
        exact t_M_rentOf_J52 hC hR (M_rentOf_L8_r n) hk_8 σ a1 a2 a3 a5 ((100 * a2) + 100)
      · refine at_iload (j := 0) hC rfl dX11_rentOf_40 ?_
        refine at_goto (tgt := 52) hC dX11_rentOf_42 rfl ?_
        refine at_drop (lv' := [(0, .ref 0), (1, .int a1), (2, .int a2), (3, .long a3), (5, .int a5)]) [1, 2, 3, 4, 5] rfl ?_
        exact t_M_rentOf_J52 hC hR (M_rentOf_L8_r n) hk_8 σ a1 a2 a3 a5 r1
set_option maxRecDepth 100000 in
theorem c_M_rentOf (σ : MS) (p0 : Int32) (p1 : Int32) : Ct z (wM z τ) rJ eqA yX11_rentOf cX11_rentOf 8 (some .long) 621 0 0 [.ref 0, .int p0, .int p1] σ (M_rentOf σ p0 p1) := by
  refine Ct.of (by decide) (Nat.le_of_ble_eq_true rfl) (fun ad x hC hR _ => ?_)
  show AT z x 8 (wM z τ) rJ (eqA ad) 0 0 0 0 ad 0 [(0, .ref 0), (1, .int p0), (2, .int p1)] [] σ (M_rentOf σ p0 p1)
  unfold M_rentOf
  refine at_lconst hC lc_0 dX11_rentOf_0 ?_
  refine at_lstore_n (lv' := [(3, .long 0), (0, .ref 0), (1, .int p0), (2, .int p1)]) hC rfl dX11_rentOf_1 (by decide) rfl ?_
  refine at_bipush hC bi_100 dX11_rentOf_2 ?_
  refine at_iload_n (j := 3) hC rfl rfl dX11_rentOf_4 ?_
  refine at_imul hC dX11_rentOf_5 ?_
  refine at_istore (lv' := [(5, .int (100 * p1)), (3, .long 0), (0, .ref 0), (1, .int p0), (2, .int p1)]) hC dX11_rentOf_6 (by decide) rfl ?_
  refine at_drop (lv' := [(0, .ref 0), (1, .int p0), (2, .int p1), (3, .long 0), (5, .int (100 * p1))]) [2, 3, 4, 1, 0] rfl ?_
  exact t_M_rentOf_L8 hC hR 100000 σ p0 p1 0 (100 * p1)
theorem dX11_isWoman_0 : decode cX11_isWoman 0 = .ok (.aload_n 0, 1) := by decide +kernel
theorem dX11_isWoman_1 : decode cX11_isWoman 1 = .ok (.iload_n 1, 1) := by decide +kernel
theorem dX11_isWoman_2 : decode cX11_isWoman 2 = .ok (.invokevirtual 133, 3) := by decide +kernel
theorem dX11_isWoman_5 : decode cX11_isWoman 5 = .ok (.ifCond .eq 17, 3) := by decide +kernel
theorem dX11_isWoman_8 : decode cX11_isWoman 8 = .ok (.aload_n 0, 1) := by decide +kernel
theorem dX11_isWoman_9 : decode cX11_isWoman 9 = .ok (.getfield 11, 3) := by decide +kernel
theorem dX11_isWoman_12 : decode cX11_isWoman 12 = .ok (.iload_n 1, 1) := by decide +kernel
theorem dX11_isWoman_13 : decode cX11_isWoman 13 = .ok (.iaload, 1) := by decide +kernel
theorem dX11_isWoman_14 : decode cX11_isWoman 14 = .ok (.iconst 1, 1) := by decide +kernel
theorem dX11_isWoman_15 : decode cX11_isWoman 15 = .ok (.if_icmp .ne 7, 3) := by decide +kernel
theorem dX11_isWoman_18 : decode cX11_isWoman 18 = .ok (.iconst 1, 1) := by decide +kernel
theorem dX11_isWoman_19 : decode cX11_isWoman 19 = .ok (.goto 4, 3) := by decide +kernel
theorem dX11_isWoman_22 : decode cX11_isWoman 22 = .ok (.iconst 0, 1) := by decide +kernel
theorem dX11_isWoman_23 : decode cX11_isWoman 23 = .ok (.ireturn, 1) := by decide +kernel
set_option maxRecDepth 100000 in
theorem c_M_isWoman (σ : MS) (p0 : Int32) : Ct z (wM z τ) rI eqA yX11_isWoman cX11_isWoman 2 (some .boolean) 3 0 0 [.ref 0, .int p0] σ ((M_isWoman σ p0).map fun r => (r, σ)) := by
  refine Ct.of (by decide) (Nat.le_of_ble_eq_true rfl) (fun ad x hC hR _ => ?_)
  show AT z x 2 (wM z τ) rI (eqA ad) 0 0 0 0 ad 0 [(0, .ref 0), (1, .int p0)] [] σ ((M_isWoman σ p0).map fun r => (r, σ))
  unfold M_isWoman
  refine at_aload_n (j := 0) hC rfl rfl dX11_isWoman_0 ?_
  refine at_iload_n (j := 1) hC rfl rfl dX11_isWoman_1 ?_
  refine ap_callVI hC hR lk_X11_133 (c_M_isPerson σ p0) dX11_isWoman_2 recX11 rfl rfl ⟨by decide, by decide⟩ (Nat.le_of_ble_eq_true rfl) ⟨Nat.le_refl 0, Nat.le_refl 0⟩ (fun r1 _ => ?_)
  refine ap_if_eq (tgt := 22) hC dX11_isWoman_5 rfl (fun _ => ?_) (fun _ => ?_)
  · refine at_iconst hC ic_0 dX11_isWoman_22 ?_
    exact at_zret (F := eqA ad) (ra := rI) hC nb0 dX11_isWoman_23 rfl (Nat.le_refl 0) (Nat.le_refl 0) rfl
  · refine at_aload_n (j := 0) hC rfl rfl dX11_isWoman_8 ?_
    refine gf_X11_11 hC dX11_isWoman_9 ?_
    refine at_iload_n (j := 1) hC rfl rfl dX11_isWoman_12 ?_
    refine ap_iald hC 1 dX11_isWoman_13 cl_1 (fun v2 => ?_)
    refine at_iconst hC ic_1 dX11_isWoman_14 ?_
    refine ap_icmp_ne (tgt := 22) hC dX11_isWoman_15 rfl (fun _ => ?_) (fun _ => ?_)
    · refine at_iconst hC ic_0 dX11_isWoman_22 ?_
      exact at_zret (F := eqA ad) (ra := rI) hC nb0 dX11_isWoman_23 rfl (Nat.le_refl 0) (Nat.le_refl 0) rfl
    · refine at_iconst hC ic_1 dX11_isWoman_18 ?_
      refine at_goto (tgt := 23) hC dX11_isWoman_19 rfl ?_
      exact at_zret (F := eqA ad) (ra := rI) hC nb1 dX11_isWoman_23 rfl (Nat.le_refl 0) (Nat.le_refl 0) rfl
theorem dX11_rent_0 : decode cX11_rent 0 = .ok (.aload_n 0, 1) := by decide +kernel
theorem dX11_rent_1 : decode cX11_rent 1 = .ok (.iload_n 1, 1) := by decide +kernel
theorem dX11_rent_2 : decode cX11_rent 2 = .ok (.invokevirtual 398, 3) := by decide +kernel
theorem dX11_rent_5 : decode cX11_rent 5 = .ok (.ifCond .eq 18, 3) := by decide +kernel
theorem dX11_rent_8 : decode cX11_rent 8 = .ok (.iload_n 2, 1) := by decide +kernel
theorem dX11_rent_9 : decode cX11_rent 9 = .ok (.invokestatic 379, 3) := by decide +kernel
theorem dX11_rent_12 : decode cX11_rent 12 = .ok (.ifCond .eq 11, 3) := by decide +kernel
theorem dX11_rent_15 : decode cX11_rent 15 = .ok (.aload_n 0, 1) := by decide +kernel
theorem dX11_rent_16 : decode cX11_rent 16 = .ok (.iload_n 3, 1) := by decide +kernel
theorem dX11_rent_17 : decode cX11_rent 17 = .ok (.invokevirtual 212, 3) := by decide +kernel
theorem dX11_rent_20 : decode cX11_rent 20 = .ok (.ifCond .ne 7, 3) := by decide +kernel
theorem dX11_rent_23 : decode cX11_rent 23 = .ok (.ldc2_w 382, 3) := by decide +kernel
theorem dX11_rent_26 : decode cX11_rent 26 = .ok (.lreturn, 1) := by decide +kernel
theorem dX11_rent_27 : decode cX11_rent 27 = .ok (.aload_n 0, 1) := by decide +kernel
theorem dX11_rent_28 : decode cX11_rent 28 = .ok (.iload_n 3, 1) := by decide +kernel
theorem dX11_rent_29 : decode cX11_rent 29 = .ok (.invokevirtual 143, 3) := by decide +kernel
theorem dX11_rent_32 : decode cX11_rent 32 = .ok (.aload_n 0, 1) := by decide +kernel
theorem dX11_rent_33 : decode cX11_rent 33 = .ok (.iload_n 1, 1) := by decide +kernel
theorem dX11_rent_34 : decode cX11_rent 34 = .ok (.iload_n 2, 1) := by decide +kernel
theorem dX11_rent_35 : decode cX11_rent 35 = .ok (.invokevirtual 401, 3) := by decide +kernel
theorem dX11_rent_38 : decode cX11_rent 38 = .ok (.lreturn, 1) := by decide +kernel
set_option maxRecDepth 100000 in
theorem c_M_rent (σ : MS) (p0 : Int32) (p1 : Int32) (p2 : Int32) : Ct z (wM z τ) rJ eqA yX11_rent cX11_rent 4 (some .long) 622 0 0 [.ref 0, .int p0, .int p1, .int p2] σ (M_rent σ p0 p1 p2) := by
  refine Ct.of (by decide) (Nat.le_of_ble_eq_true rfl) (fun ad x hC hR _ => ?_)
  show AT z x 4 (wM z τ) rJ (eqA ad) 0 0 0 0 ad 0 [(0, .ref 0), (1, .int p0), (2, .int p1), (3, .int p2)] [] σ (M_rent σ p0 p1 p2)
  unfold M_rent
  refine at_aload_n (j := 0) hC rfl rfl dX11_rent_0 ?_
  refine at_iload_n (j := 1) hC rfl rfl dX11_rent_1 ?_
  refine at_callVpI hC hR lk_X11_398 (c_M_isWoman σ p0) dX11_rent_2 recX11 rfl rfl ⟨by decide, by decide⟩ (Nat.le_of_ble_eq_true rfl) ⟨Nat.le_refl 0, Nat.le_refl 0⟩ (fun r1 _ => ?_)
  refine at_if_eq (tgt := 23) hC dX11_rent_5 rfl (fun _ => ?_) (fun _ => ?_)
  · refine at_ldc2 hC kl_X11_382 dX11_rent_23 ?_
    exact at_lret (F := eqA ad) (ra := rJ) hC dX11_rent_26 rfl (Nat.le_refl 0) (Nat.le_refl 0) rfl
  · refine at_iload_n (j := 2) hC rfl rfl dX11_rent_8 ?_
    refine at_callSpI hC hR lk_X11_379 (c_M_isYear σ p1) dX11_rent_9 rfl rfl ⟨by decide, by decide⟩ (Nat.le_of_ble_eq_true rfl) ⟨Nat.le_refl 0, Nat.le_refl 0⟩ (fun r2 _ => ?_)
    refine at_if_eq (tgt := 23) hC dX11_rent_12 rfl (fun _ => ?_) (fun _ => ?_)
    · refine at_ldc2 hC kl_X11_382 dX11_rent_23 ?_
      exact at_lret (F := eqA ad) (ra := rJ) hC dX11_rent_26 rfl (Nat.le_refl 0) (Nat.le_refl 0) rfl
    · refine at_aload_n (j := 0) hC rfl rfl dX11_rent_15 ?_
      refine at_iload_n (j := 3) hC rfl rfl dX11_rent_16 ?_
      refine at_callVpI hC hR lk_X11_212 (c_M_isBy σ p2) dX11_rent_17 recX11 rfl rfl ⟨by decide, by decide⟩ (Nat.le_of_ble_eq_true rfl) ⟨Nat.le_refl 0, Nat.le_refl 0⟩ (fun r3 _ => ?_)
      refine at_if_ne (tgt := 27) hC dX11_rent_20 rfl (fun _ => ?_) (fun _ => ?_)
      · refine at_aload_n (j := 0) hC rfl rfl dX11_rent_27 ?_
        refine at_iload_n (j := 3) hC rfl rfl dX11_rent_28 ?_
        refine at_callVU hC hR lk_X11_143 (c_M_looks σ p2) dX11_rent_29 recX11 rfl rfl ⟨by decide, by decide⟩ (Nat.le_of_ble_eq_true rfl) ⟨Nat.le_refl 0, Nat.le_refl 0⟩ (fun r4 r4s _ => ?_)
        refine at_aload_n (j := 0) hC rfl rfl dX11_rent_32 ?_
        refine at_iload_n (j := 1) hC rfl rfl dX11_rent_33 ?_
        refine at_iload_n (j := 2) hC rfl rfl dX11_rent_34 ?_
        refine at_callVJ hC hR lk_X11_401 (c_M_rentOf r4s p0 p1) dX11_rent_35 recX11 rfl rfl ⟨by decide, by decide⟩ (Nat.le_of_ble_eq_true rfl) ⟨Nat.le_refl 0, Nat.le_refl 0⟩ (fun r5 r5s _ => ?_)
        exact at_lret (F := eqA ad) (ra := rJ) hC dX11_rent_38 rfl (Nat.le_refl 0) (Nat.le_refl 0) rfl
      · refine at_ldc2 hC kl_X11_382 dX11_rent_23 ?_
        exact at_lret (F := eqA ad) (ra := rJ) hC dX11_rent_26 rfl (Nat.le_refl 0) (Nat.le_refl 0) rfl
theorem dX11_widow_0 : decode cX11_widow 0 = .ok (.aload_n 0, 1) := by decide +kernel
theorem dX11_widow_1 : decode cX11_widow 1 = .ok (.iload_n 1, 1) := by decide +kernel
theorem dX11_widow_2 : decode cX11_widow 2 = .ok (.invokevirtual 398, 3) := by decide +kernel
theorem dX11_widow_5 : decode cX11_widow 5 = .ok (.ifCond .eq 18, 3) := by decide +kernel
theorem dX11_widow_8 : decode cX11_widow 8 = .ok (.iload_n 2, 1) := by decide +kernel
theorem dX11_widow_9 : decode cX11_widow 9 = .ok (.invokestatic 177, 3) := by decide +kernel
theorem dX11_widow_12 : decode cX11_widow 12 = .ok (.ifCond .eq 11, 3) := by decide +kernel
theorem dX11_widow_15 : decode cX11_widow 15 = .ok (.aload_n 0, 1) := by decide +kernel
theorem dX11_widow_16 : decode cX11_widow 16 = .ok (.iload_n 3, 1) := by decide +kernel
theorem dX11_widow_17 : decode cX11_widow 17 = .ok (.invokevirtual 212, 3) := by decide +kernel
theorem dX11_widow_20 : decode cX11_widow 20 = .ok (.ifCond .ne 7, 3) := by decide +kernel
theorem dX11_widow_23 : decode cX11_widow 23 = .ok (.ldc2_w 382, 3) := by decide +kernel
theorem dX11_widow_26 : decode cX11_widow 26 = .ok (.lreturn, 1) := by decide +kernel
theorem dX11_widow_27 : decode cX11_widow 27 = .ok (.aload_n 0, 1) := by decide +kernel
theorem dX11_widow_28 : decode cX11_widow 28 = .ok (.iload_n 3, 1) := by decide +kernel
theorem dX11_widow_29 : decode cX11_widow 29 = .ok (.invokevirtual 143, 3) := by decide +kernel
theorem dX11_widow_32 : decode cX11_widow 32 = .ok (.aload_n 0, 1) := by decide +kernel
theorem dX11_widow_33 : decode cX11_widow 33 = .ok (.iload_n 1, 1) := by decide +kernel
theorem dX11_widow_34 : decode cX11_widow 34 = .ok (.iload_n 2, 1) := by decide +kernel
theorem dX11_widow_35 : decode cX11_widow 35 = .ok (.invokevirtual 395, 3) := by decide +kernel
theorem dX11_widow_38 : decode cX11_widow 38 = .ok (.i2l, 1) := by decide +kernel
theorem dX11_widow_39 : decode cX11_widow 39 = .ok (.lreturn, 1) := by decide +kernel
set_option maxRecDepth 100000 in
theorem c_M_widow (σ : MS) (p0 : Int32) (p1 : Int32) (p2 : Int32) : Ct z (wM z τ) rJ eqA yX11_widow cX11_widow 4 (some .long) 621 0 0 [.ref 0, .int p0, .int p1, .int p2] σ (M_widow σ p0 p1 p2) := by
  refine Ct.of (by decide) (Nat.le_of_ble_eq_true rfl) (fun ad x hC hR _ => ?_)
  show AT z x 4 (wM z τ) rJ (eqA ad) 0 0 0 0 ad 0 [(0, .ref 0), (1, .int p0), (2, .int p1), (3, .int p2)] [] σ (M_widow σ p0 p1 p2)
  unfold M_widow
  refine at_aload_n (j := 0) hC rfl rfl dX11_widow_0 ?_
  refine at_iload_n (j := 1) hC rfl rfl dX11_widow_1 ?_
  refine at_callVpI hC hR lk_X11_398 (c_M_isWoman σ p0) dX11_widow_2 recX11 rfl rfl ⟨by decide, by decide⟩ (Nat.le_of_ble_eq_true rfl) ⟨Nat.le_refl 0, Nat.le_refl 0⟩ (fun r1 _ => ?_)
  refine at_if_eq (tgt := 23) hC dX11_widow_5 rfl (fun _ => ?_) (fun _ => ?_)
  · refine at_ldc2 hC kl_X11_382 dX11_widow_23 ?_
    exact at_lret (F := eqA ad) (ra := rJ) hC dX11_widow_26 rfl (Nat.le_refl 0) (Nat.le_refl 0) rfl
  · refine at_iload_n (j := 2) hC rfl rfl dX11_widow_8 ?_
    refine at_callSpI hC hR lk_X11_177 (c_M_isDay σ p1) dX11_widow_9 rfl rfl ⟨by decide, by decide⟩ (Nat.le_of_ble_eq_true rfl) ⟨Nat.le_refl 0, Nat.le_refl 0⟩ (fun r2 _ => ?_)
    refine at_if_eq (tgt := 23) hC dX11_widow_12 rfl (fun _ => ?_) (fun _ => ?_)
    · refine at_ldc2 hC kl_X11_382 dX11_widow_23 ?_
      exact at_lret (F := eqA ad) (ra := rJ) hC dX11_widow_26 rfl (Nat.le_refl 0) (Nat.le_refl 0) rfl
    · refine at_aload_n (j := 0) hC rfl rfl dX11_widow_15 ?_
      refine at_iload_n (j := 3) hC rfl rfl dX11_widow_16 ?_
      refine at_callVpI hC hR lk_X11_212 (c_M_isBy σ p2) dX11_widow_17 recX11 rfl rfl ⟨by decide, by decide⟩ (Nat.le_of_ble_eq_true rfl) ⟨Nat.le_refl 0, Nat.le_refl 0⟩ (fun r3 _ => ?_)
      refine at_if_ne (tgt := 27) hC dX11_widow_20 rfl (fun _ => ?_) (fun _ => ?_)
      · refine at_aload_n (j := 0) hC rfl rfl dX11_widow_27 ?_
        refine at_iload_n (j := 3) hC rfl rfl dX11_widow_28 ?_
        refine at_callVU hC hR lk_X11_143 (c_M_looks σ p2) dX11_widow_29 recX11 rfl rfl ⟨by decide, by decide⟩ (Nat.le_of_ble_eq_true rfl) ⟨Nat.le_refl 0, Nat.le_refl 0⟩ (fun r4 r4s _ => ?_)
        refine at_aload_n (j := 0) hC rfl rfl dX11_widow_32 ?_
        refine at_iload_n (j := 1) hC rfl rfl dX11_widow_33 ?_
        refine at_iload_n (j := 2) hC rfl rfl dX11_widow_34 ?_
        refine at_callVI hC hR lk_X11_395 (c_M_rentOn r4s p0 p1) dX11_widow_35 recX11 rfl rfl ⟨by decide, by decide⟩ (Nat.le_of_ble_eq_true rfl) ⟨Nat.le_refl 0, Nat.le_refl 0⟩ (fun r5 r5s _ => ?_)
        refine at_i2l hC dX11_widow_38 ?_
        exact at_lret (F := eqA ad) (ra := rJ) hC dX11_widow_39 rfl (Nat.le_refl 0) (Nat.le_refl 0) rfl
      · refine at_ldc2 hC kl_X11_382 dX11_widow_23 ?_
        exact at_lret (F := eqA ad) (ra := rJ) hC dX11_widow_26 rfl (Nat.le_refl 0) (Nat.le_refl 0) rfl
theorem dX11_leavesWidow_0 : decode cX11_leavesWidow 0 = .ok (.iconst 0, 1) := by decide +kernel
theorem dX11_leavesWidow_1 : decode cX11_leavesWidow 1 = .ok (.istore_n 3, 1) := by decide +kernel
theorem dX11_leavesWidow_2 : decode cX11_leavesWidow 2 = .ok (.iconst 0, 1) := by decide +kernel
theorem dX11_leavesWidow_3 : decode cX11_leavesWidow 3 = .ok (.istore 4, 2) := by decide +kernel
theorem dX11_leavesWidow_5 : decode cX11_leavesWidow 5 = .ok (.iload 4, 2) := by decide +kernel
theorem dX11_leavesWidow_7 : decode cX11_leavesWidow 7 = .ok (.aload_n 0, 1) := by decide +kernel
theorem dX11_leavesWidow_8 : decode cX11_leavesWidow 8 = .ok (.getfield 126, 3) := by decide +kernel
theorem dX11_leavesWidow_11 : decode cX11_leavesWidow 11 = .ok (.if_icmp .ge 30, 3) := by decide +kernel
theorem dX11_leavesWidow_14 : decode cX11_leavesWidow 14 = .ok (.iload_n 3, 1) := by decide +kernel
theorem dX11_leavesWidow_15 : decode cX11_leavesWidow 15 = .ok (.ifCond .ne 14, 3) := by decide +kernel
theorem dX11_leavesWidow_18 : decode cX11_leavesWidow 18 = .ok (.aload_n 0, 1) := by decide +kernel
theorem dX11_leavesWidow_19 : decode cX11_leavesWidow 19 = .ok (.iload 4, 2) := by decide +kernel
theorem dX11_leavesWidow_21 : decode cX11_leavesWidow 21 = .ok (.iload_n 2, 1) := by decide +kernel
theorem dX11_leavesWidow_22 : decode cX11_leavesWidow 22 = .ok (.invokevirtual 209, 3) := by decide +kernel
theorem dX11_leavesWidow_25 : decode cX11_leavesWidow 25 = .ok (.iload_n 1, 1) := by decide +kernel
theorem dX11_leavesWidow_26 : decode cX11_leavesWidow 26 = .ok (.if_icmp .ne 7, 3) := by decide +kernel
theorem dX11_leavesWidow_29 : decode cX11_leavesWidow 29 = .ok (.iconst 1, 1) := by decide +kernel
theorem dX11_leavesWidow_30 : decode cX11_leavesWidow 30 = .ok (.goto 4, 3) := by decide +kernel
theorem dX11_leavesWidow_33 : decode cX11_leavesWidow 33 = .ok (.iconst 0, 1) := by decide +kernel
theorem dX11_leavesWidow_34 : decode cX11_leavesWidow 34 = .ok (.istore_n 3, 1) := by decide +kernel
theorem dX11_leavesWidow_35 : decode cX11_leavesWidow 35 = .ok (.iinc 4 1, 3) := by decide +kernel
theorem dX11_leavesWidow_38 : decode cX11_leavesWidow 38 = .ok (.goto (-33), 3) := by decide +kernel
theorem dX11_leavesWidow_41 : decode cX11_leavesWidow 41 = .ok (.iload_n 3, 1) := by decide +kernel
theorem dX11_leavesWidow_42 : decode cX11_leavesWidow 42 = .ok (.ireturn, 1) := by decide +kernel
set_option maxRecDepth 100000 in
theorem t_M_leavesWidow_J34 (hC : CX z ad x cX11_leavesWidow RX11 5 (some .boolean)) (hR : x.2.2.1 = rmk 620 0 0) (k_5 : MS → Int32 → Int32 → Int32 → Int32 → Option (Int32 × MS)) (hk_5 : ∀ (σ : MS) (a1 : Int32) (a2 : Int32) (a3 : Int32) (a4 : Int32), AT z x 5 (wM z τ) rI (eqA ad) 0 0 0 0 ad 5 [(0, .ref 0), (1, .int a1), (2, .int a2), (3, .int a3), (4, .int a4)] [] σ (k_5 σ a1 a2 a3 a4)) (σ : MS) (a1 : Int32) (a2 : Int32) (a4 : Int32) (s0 : Int32) : AT z x 5 (wM z τ) rI (eqA ad) 0 0 0 0 ad 34 [(0, .ref 0), (1, .int a1), (2, .int a2), (4, .int a4)] [.int s0] σ (M_leavesWidow_J34 k_5 σ a1 a2 a4 s0) := by
  unfold M_leavesWidow_J34
  refine at_istore_n (lv' := [(3, .int s0), (0, .ref 0), (1, .int a1), (2, .int a2), (4, .int a4)]) hC rfl dX11_leavesWidow_34 (by decide) rfl ?_
  refine at_iinc (j := 4) (v := a4 + 1) (lv' := [(4, .int (a4 + 1)), (3, .int s0), (0, .ref 0), (1, .int a1), (2, .int a2)]) hC dX11_leavesWidow_35 rfl rfl (by decide) rfl ?_
  refine at_goto (tgt := 5) hC dX11_leavesWidow_38 rfl ?_
  refine at_drop (lv' := [(0, .ref 0), (1, .int a1), (2, .int a2), (3, .int s0), (4, .int (a4 + 1))]) [2, 3, 4, 1, 0] rfl ?_
  exact hk_5 σ a1 a2 s0 (a4 + 1)
set_option maxRecDepth 100000 in
theorem t_M_leavesWidow_J29 (hC : CX z ad x cX11_leavesWidow RX11 5 (some .boolean)) (hR : x.2.2.1 = rmk 620 0 0) (k_5 : MS → Int32 → Int32 → Int32 → Int32 → Option (Int32 × MS)) (hk_5 : ∀ (σ : MS) (a1 : Int32) (a2 : Int32) (a3 : Int32) (a4 : Int32), AT z x 5 (wM z τ) rI (eqA ad) 0 0 0 0 ad 5 [(0, .ref 0), (1, .int a1), (2, .int a2), (3, .int a3), (4, .int a4)] [] σ (k_5 σ a1 a2 a3 a4)) (σ : MS) (a1 : Int32) (a2 : Int32) (a4 : Int32) : AT z x 5 (wM z τ) rI (eqA ad) 0 0 0 0 ad 29 [(0, .ref 0), (1, .int a1), (2, .int a2), (4, .int a4)] [] σ (M_leavesWidow_J29 k_5 σ a1 a2 a4) := by
  unfold M_leavesWidow_J29
  refine at_iconst hC ic_1 dX11_leavesWidow_29 ?_
  refine at_goto (tgt := 34) hC dX11_leavesWidow_30 rfl ?_
  exact t_M_leavesWidow_J34 hC hR k_5 hk_5 σ a1 a2 a4 1
set_option maxRecDepth 100000 in
theorem t_M_leavesWidow_L5 (hC : CX z ad x cX11_leavesWidow RX11 5 (some .boolean)) (hR : x.2.2.1 = rmk 620 0 0) (n : Nat) (σ : MS) (a1 : Int32) (a2 : Int32) (a3 : Int32) (a4 : Int32) : AT z x 5 (wM z τ) rI (eqA ad) 0 0 0 0 ad 5 [(0, .ref 0), (1, .int a1), (2, .int a2), (3, .int a3), (4, .int a4)] [] σ (M_leavesWidow_L5 n σ a1 a2 a3 a4) := by
  revert σ a1 a2 a3 a4
  show ∀ (σ : MS) (a1 : Int32) (a2 : Int32) (a3 : Int32) (a4 : Int32), AT z x 5 (wM z τ) rI (eqA ad) 0 0 0 0 ad 5 [(0, .ref 0), (1, .int a1), (2, .int a2), (3, .int a3), (4, .int a4)] [] σ (M_leavesWidow_L5_r n σ a1 a2 a3 a4)
  induction n with
  | zero => intro σ a1 a2 a3 a4; exact at_none
  | succ n hk_5 =>
    intro σ a1 a2 a3 a4
    unfold M_leavesWidow_L5_r
    refine at_iload (j := 4) hC rfl dX11_leavesWidow_5 ?_
    refine at_aload_n (j := 0) hC rfl rfl dX11_leavesWidow_7 ?_
    refine gf_X11_126 hC dX11_leavesWidow_8 ?_
    refine at_icmp_ge (tgt := 41) hC dX11_leavesWidow_11 rfl (fun _ => ?_) (fun _ => ?_)
    · refine at_iload_n (j := 3) hC rfl rfl dX11_leavesWidow_41 ?_
      refine at_bz (fun hb => ?_)
      exact at_zret (F := eqA ad) (ra := rI) hC (nbz hb) dX11_leavesWidow_42 rfl (Nat.le_refl 0) (Nat.le_refl 0) rfl
    · refine at_iload_n (j := 3) hC rfl rfl dX11_leavesWidow_14 ?_
      refine at_if_ne (tgt := 29) hC dX11_leavesWidow_15 rfl (fun _ => ?_) (fun _ => ?_)
      · refine at_drop (lv' := [(0, .ref 0), (1, .int a1), (2, .int a2), (4, .int a4)]) [0, 1, 2, 4] rfl ?_
        exact t_M_leavesWidow_J29 hC hR (M_leavesWidow_L5_r n) hk_5 σ a1 a2 a4
      · refine at_aload_n (j := 0) hC rfl rfl dX11_leavesWidow_18 ?_
        refine at_iload (j := 4) hC rfl dX11_leavesWidow_19 ?_
        refine at_iload_n (j := 2) hC rfl rfl dX11_leavesWidow_21 ?_
        refine at_callVI hC hR lk_X11_209 (c_M_widowOf σ a4 a2) dX11_leavesWidow_22 recX11 rfl rfl ⟨by decide, by decide⟩ (Nat.le_of_ble_eq_true rfl) ⟨Nat.le_refl 0, Nat.le_refl 0⟩ (fun r1 r1s _ => ?_)
        refine at_iload_n (j := 1) hC rfl rfl dX11_leavesWidow_25 ?_
        refine at_icmp_ne (tgt := 33) hC dX11_leavesWidow_26 rfl (fun _ => ?_) (fun _ => ?_)
        · refine at_iconst hC ic_0 dX11_leavesWidow_33 ?_
          refine at_drop (lv' := [(0, .ref 0), (1, .int a1), (2, .int a2), (4, .int a4)]) [0, 1, 2, 4] rfl ?_
          exact t_M_leavesWidow_J34 hC hR (M_leavesWidow_L5_r n) hk_5 r1s a1 a2 a4 0
        · refine at_drop (lv' := [(0, .ref 0), (1, .int a1), (2, .int a2), (4, .int a4)]) [0, 1, 2, 4] rfl ?_
          exact t_M_leavesWidow_J29 hC hR (M_leavesWidow_L5_r n) hk_5 r1s a1 a2 a4
set_option maxRecDepth 100000 in
theorem c_M_leavesWidow (σ : MS) (p0 : Int32) (p1 : Int32) : Ct z (wM z τ) rI eqA yX11_leavesWidow cX11_leavesWidow 5 (some .boolean) 620 0 0 [.ref 0, .int p0, .int p1] σ (M_leavesWidow σ p0 p1) := by
  refine Ct.of (by decide) (Nat.le_of_ble_eq_true rfl) (fun ad x hC hR _ => ?_)
  show AT z x 5 (wM z τ) rI (eqA ad) 0 0 0 0 ad 0 [(0, .ref 0), (1, .int p0), (2, .int p1)] [] σ (M_leavesWidow σ p0 p1)
  unfold M_leavesWidow
  refine at_iconst hC ic_0 dX11_leavesWidow_0 ?_
  refine at_istore_n (lv' := [(3, .int 0), (0, .ref 0), (1, .int p0), (2, .int p1)]) hC rfl dX11_leavesWidow_1 (by decide) rfl ?_
  refine at_iconst hC ic_0 dX11_leavesWidow_2 ?_
  refine at_istore (lv' := [(4, .int 0), (3, .int 0), (0, .ref 0), (1, .int p0), (2, .int p1)]) hC dX11_leavesWidow_3 (by decide) rfl ?_
  refine at_drop (lv' := [(0, .ref 0), (1, .int p0), (2, .int p1), (3, .int 0), (4, .int 0)]) [2, 3, 4, 1, 0] rfl ?_
  exact t_M_leavesWidow_L5 hC hR 100000 σ p0 p1 0 0
theorem dX11_isHeir_0 : decode cX11_isHeir 0 = .ok (.aload_n 0, 1) := by decide +kernel
theorem dX11_isHeir_1 : decode cX11_isHeir 1 = .ok (.getfield 18, 3) := by decide +kernel
theorem dX11_isHeir_4 : decode cX11_isHeir 4 = .ok (.iload_n 1, 1) := by decide +kernel
theorem dX11_isHeir_5 : decode cX11_isHeir 5 = .ok (.iaload, 1) := by decide +kernel
theorem dX11_isHeir_6 : decode cX11_isHeir 6 = .ok (.iload_n 2, 1) := by decide +kernel
theorem dX11_isHeir_7 : decode cX11_isHeir 7 = .ok (.if_icmp .ne 34, 3) := by decide +kernel
theorem dX11_isHeir_10 : decode cX11_isHeir 10 = .ok (.aload_n 0, 1) := by decide +kernel
theorem dX11_isHeir_11 : decode cX11_isHeir 11 = .ok (.iload_n 1, 1) := by decide +kernel
theorem dX11_isHeir_12 : decode cX11_isHeir 12 = .ok (.iload_n 3, 1) := by decide +kernel
theorem dX11_isHeir_13 : decode cX11_isHeir 13 = .ok (.invokevirtual 147, 3) := by decide +kernel
theorem dX11_isHeir_16 : decode cX11_isHeir 16 = .ok (.ifCond .eq 25, 3) := by decide +kernel
theorem dX11_isHeir_19 : decode cX11_isHeir 19 = .ok (.aload_n 0, 1) := by decide +kernel
theorem dX11_isHeir_20 : decode cX11_isHeir 20 = .ok (.iload_n 1, 1) := by decide +kernel
theorem dX11_isHeir_21 : decode cX11_isHeir 21 = .ok (.iload_n 3, 1) := by decide +kernel
theorem dX11_isHeir_22 : decode cX11_isHeir 22 = .ok (.invokevirtual 206, 3) := by decide +kernel
theorem dX11_isHeir_25 : decode cX11_isHeir 25 = .ok (.aload_n 0, 1) := by decide +kernel
theorem dX11_isHeir_26 : decode cX11_isHeir 26 = .ok (.bipush 7, 2) := by decide +kernel
theorem dX11_isHeir_28 : decode cX11_isHeir 28 = .ok (.iconst (-1), 1) := by decide +kernel
theorem dX11_isHeir_29 : decode cX11_isHeir 29 = .ok (.iload_n 3, 1) := by decide +kernel
theorem dX11_isHeir_30 : decode cX11_isHeir 30 = .ok (.iload_n 3, 1) := by decide +kernel
theorem dX11_isHeir_31 : decode cX11_isHeir 31 = .ok (.invokevirtual 193, 3) := by decide +kernel
theorem dX11_isHeir_34 : decode cX11_isHeir 34 = .ok (.if_icmp .ge 7, 3) := by decide +kernel
theorem dX11_isHeir_37 : decode cX11_isHeir 37 = .ok (.iconst 1, 1) := by decide +kernel
theorem dX11_isHeir_38 : decode cX11_isHeir 38 = .ok (.goto 4, 3) := by decide +kernel
theorem dX11_isHeir_41 : decode cX11_isHeir 41 = .ok (.iconst 0, 1) := by decide +kernel
theorem dX11_isHeir_42 : decode cX11_isHeir 42 = .ok (.ireturn, 1) := by decide +kernel
set_option maxRecDepth 100000 in
theorem c_M_isHeir (σ : MS) (p0 : Int32) (p1 : Int32) (p2 : Int32) : Ct z (wM z τ) rI eqA yX11_isHeir cX11_isHeir 4 (some .boolean) 618 0 0 [.ref 0, .int p0, .int p1, .int p2] σ (M_isHeir σ p0 p1 p2) := by
  refine Ct.of (by decide) (Nat.le_of_ble_eq_true rfl) (fun ad x hC hR _ => ?_)
  show AT z x 4 (wM z τ) rI (eqA ad) 0 0 0 0 ad 0 [(0, .ref 0), (1, .int p0), (2, .int p1), (3, .int p2)] [] σ (M_isHeir σ p0 p1 p2)
  unfold M_isHeir
  refine at_aload_n (j := 0) hC rfl rfl dX11_isHeir_0 ?_
  refine gf_X11_18 hC dX11_isHeir_1 ?_
  refine at_iload_n (j := 1) hC rfl rfl dX11_isHeir_4 ?_
  refine at_iald hC 3 dX11_isHeir_5 cl_3 (fun v1 => ?_)
  refine at_iload_n (j := 2) hC rfl rfl dX11_isHeir_6 ?_
  refine at_icmp_ne (tgt := 41) hC dX11_isHeir_7 rfl (fun _ => ?_) (fun _ => ?_)
  · refine at_iconst hC ic_0 dX11_isHeir_41 ?_
    exact at_zret (F := eqA ad) (ra := rI) hC nb0 dX11_isHeir_42 rfl (Nat.le_refl 0) (Nat.le_refl 0) rfl
  · refine at_aload_n (j := 0) hC rfl rfl dX11_isHeir_10 ?_
    refine at_iload_n (j := 1) hC rfl rfl dX11_isHeir_11 ?_
    refine at_iload_n (j := 3) hC rfl rfl dX11_isHeir_12 ?_
    refine at_callVpI hC hR lk_X11_147 (c_M_lives σ p0 p2) dX11_isHeir_13 recX11 rfl rfl ⟨by decide, by decide⟩ (Nat.le_of_ble_eq_true rfl) ⟨Nat.le_refl 0, Nat.le_refl 0⟩ (fun r2 _ => ?_)
    refine at_if_eq (tgt := 41) hC dX11_isHeir_16 rfl (fun _ => ?_) (fun _ => ?_)
    · refine at_iconst hC ic_0 dX11_isHeir_41 ?_
      exact at_zret (F := eqA ad) (ra := rI) hC nb0 dX11_isHeir_42 rfl (Nat.le_refl 0) (Nat.le_refl 0) rfl
    · refine at_aload_n (j := 0) hC rfl rfl dX11_isHeir_19 ?_
      refine at_iload_n (j := 1) hC rfl rfl dX11_isHeir_20 ?_
      refine at_iload_n (j := 3) hC rfl rfl dX11_isHeir_21 ?_
      refine at_callVpI hC hR lk_X11_206 (c_M_ageOf σ p0 p2) dX11_isHeir_22 recX11 rfl rfl ⟨by decide, by decide⟩ (Nat.le_of_ble_eq_true rfl) ⟨Nat.le_refl 0, Nat.le_refl 0⟩ (fun r3 _ => ?_)
      refine at_aload_n (j := 0) hC rfl rfl dX11_isHeir_25 ?_
      refine at_bipush hC bi_7 dX11_isHeir_26 ?_
      refine at_iconst hC ic_m1 dX11_isHeir_28 ?_
      refine at_iload_n (j := 3) hC rfl rfl dX11_isHeir_29 ?_
      refine at_iload_n (j := 3) hC rfl rfl dX11_isHeir_30 ?_
      refine at_callVI hC hR lk_X11_193 (c_M_ruled σ 7 (-1) p2 p2) dX11_isHeir_31 recX11 rfl rfl ⟨by decide, by decide⟩ (Nat.le_of_ble_eq_true rfl) ⟨Nat.le_refl 0, Nat.le_refl 0⟩ (fun r4 r4s _ => ?_)
      refine at_icmp_ge (tgt := 41) hC dX11_isHeir_34 rfl (fun _ => ?_) (fun _ => ?_)
      · refine at_iconst hC ic_0 dX11_isHeir_41 ?_
        exact at_zret (F := eqA ad) (ra := rI) hC nb0 dX11_isHeir_42 rfl (Nat.le_refl 0) (Nat.le_refl 0) rfl
      · refine at_iconst hC ic_1 dX11_isHeir_37 ?_
        refine at_goto (tgt := 42) hC dX11_isHeir_38 rfl ?_
        exact at_zret (F := eqA ad) (ra := rI) hC nb1 dX11_isHeir_42 rfl (Nat.le_refl 0) (Nat.le_refl 0) rfl
theorem dX11_sumOf_0 : decode cX11_sumOf 0 = .ok (.lconst 0, 1) := by decide +kernel
theorem dX11_sumOf_1 : decode cX11_sumOf 1 = .ok (.lstore_n 3, 1) := by decide +kernel
theorem dX11_sumOf_2 : decode cX11_sumOf 2 = .ok (.iconst 0, 1) := by decide +kernel
theorem dX11_sumOf_3 : decode cX11_sumOf 3 = .ok (.istore 5, 2) := by decide +kernel
theorem dX11_sumOf_5 : decode cX11_sumOf 5 = .ok (.iload 5, 2) := by decide +kernel
theorem dX11_sumOf_7 : decode cX11_sumOf 7 = .ok (.aload_n 0, 1) := by decide +kernel
theorem dX11_sumOf_8 : decode cX11_sumOf 8 = .ok (.getfield 126, 3) := by decide +kernel
theorem dX11_sumOf_11 : decode cX11_sumOf 11 = .ok (.if_icmp .ge 244, 3) := by decide +kernel
theorem dX11_sumOf_14 : decode cX11_sumOf 14 = .ok (.aload_n 0, 1) := by decide +kernel
theorem dX11_sumOf_15 : decode cX11_sumOf 15 = .ok (.getfield 114, 3) := by decide +kernel
theorem dX11_sumOf_18 : decode cX11_sumOf 18 = .ok (.iload 5, 2) := by decide +kernel
theorem dX11_sumOf_20 : decode cX11_sumOf 20 = .ok (.iaload, 1) := by decide +kernel
theorem dX11_sumOf_21 : decode cX11_sumOf 21 = .ok (.istore 6, 2) := by decide +kernel
theorem dX11_sumOf_23 : decode cX11_sumOf 23 = .ok (.aload_n 0, 1) := by decide +kernel
theorem dX11_sumOf_24 : decode cX11_sumOf 24 = .ok (.getfield 11, 3) := by decide +kernel
theorem dX11_sumOf_27 : decode cX11_sumOf 27 = .ok (.iload 5, 2) := by decide +kernel
theorem dX11_sumOf_29 : decode cX11_sumOf 29 = .ok (.iaload, 1) := by decide +kernel
theorem dX11_sumOf_30 : decode cX11_sumOf 30 = .ok (.ifCond .ne 48, 3) := by decide +kernel
theorem dX11_sumOf_33 : decode cX11_sumOf 33 = .ok (.iload 6, 2) := by decide +kernel
theorem dX11_sumOf_35 : decode cX11_sumOf 35 = .ok (.sipush 10000, 3) := by decide +kernel
theorem dX11_sumOf_38 : decode cX11_sumOf 38 = .ok (.if_icmp .eq 40, 3) := by decide +kernel
theorem dX11_sumOf_41 : decode cX11_sumOf 41 = .ok (.iload 6, 2) := by decide +kernel
theorem dX11_sumOf_43 : decode cX11_sumOf 43 = .ok (.invokestatic 363, 3) := by decide +kernel
theorem dX11_sumOf_46 : decode cX11_sumOf 46 = .ok (.iload_n 2, 1) := by decide +kernel
theorem dX11_sumOf_47 : decode cX11_sumOf 47 = .ok (.if_icmp .ne 31, 3) := by decide +kernel
theorem dX11_sumOf_50 : decode cX11_sumOf 50 = .ok (.aload_n 0, 1) := by decide +kernel
theorem dX11_sumOf_51 : decode cX11_sumOf 51 = .ok (.iload 5, 2) := by decide +kernel
theorem dX11_sumOf_53 : decode cX11_sumOf 53 = .ok (.iload 6, 2) := by decide +kernel
theorem dX11_sumOf_55 : decode cX11_sumOf 55 = .ok (.iconst 1, 1) := by decide +kernel
theorem dX11_sumOf_56 : decode cX11_sumOf 56 = .ok (.isub, 1) := by decide +kernel
theorem dX11_sumOf_57 : decode cX11_sumOf 57 = .ok (.invokevirtual 197, 3) := by decide +kernel
theorem dX11_sumOf_60 : decode cX11_sumOf 60 = .ok (.ifCond .eq 18, 3) := by decide +kernel
theorem dX11_sumOf_63 : decode cX11_sumOf 63 = .ok (.aload_n 0, 1) := by decide +kernel
theorem dX11_sumOf_64 : decode cX11_sumOf 64 = .ok (.iload 5, 2) := by decide +kernel
theorem dX11_sumOf_66 : decode cX11_sumOf 66 = .ok (.iload 6, 2) := by decide +kernel
theorem dX11_sumOf_68 : decode cX11_sumOf 68 = .ok (.invokevirtual 404, 3) := by decide +kernel
theorem dX11_sumOf_71 : decode cX11_sumOf 71 = .ok (.ifCond .ne 7, 3) := by decide +kernel
theorem dX11_sumOf_74 : decode cX11_sumOf 74 = .ok (.iconst 1, 1) := by decide +kernel
theorem dX11_sumOf_75 : decode cX11_sumOf 75 = .ok (.goto 4, 3) := by decide +kernel
theorem dX11_sumOf_78 : decode cX11_sumOf 78 = .ok (.iconst 0, 1) := by decide +kernel
theorem dX11_sumOf_79 : decode cX11_sumOf 79 = .ok (.istore 7, 2) := by decide +kernel
theorem dX11_sumOf_81 : decode cX11_sumOf 81 = .ok (.iconst 0, 1) := by decide +kernel
theorem dX11_sumOf_82 : decode cX11_sumOf 82 = .ok (.istore 8, 2) := by decide +kernel
theorem dX11_sumOf_84 : decode cX11_sumOf 84 = .ok (.iconst 0, 1) := by decide +kernel
theorem dX11_sumOf_85 : decode cX11_sumOf 85 = .ok (.istore 9, 2) := by decide +kernel
theorem dX11_sumOf_87 : decode cX11_sumOf 87 = .ok (.iconst 0, 1) := by decide +kernel
theorem dX11_sumOf_88 : decode cX11_sumOf 88 = .ok (.istore 10, 2) := by decide +kernel
theorem dX11_sumOf_90 : decode cX11_sumOf 90 = .ok (.iload 10, 2) := by decide +kernel
theorem dX11_sumOf_92 : decode cX11_sumOf 92 = .ok (.aload_n 0, 1) := by decide +kernel
theorem dX11_sumOf_93 : decode cX11_sumOf 93 = .ok (.getfield 126, 3) := by decide +kernel
theorem dX11_sumOf_96 : decode cX11_sumOf 96 = .ok (.if_icmp .ge 62, 3) := by decide +kernel
theorem dX11_sumOf_99 : decode cX11_sumOf 99 = .ok (.iload 7, 2) := by decide +kernel
theorem dX11_sumOf_101 : decode cX11_sumOf 101 = .ok (.ifCond .eq 57, 3) := by decide +kernel
theorem dX11_sumOf_104 : decode cX11_sumOf 104 = .ok (.aload_n 0, 1) := by decide +kernel
theorem dX11_sumOf_105 : decode cX11_sumOf 105 = .ok (.iload 10, 2) := by decide +kernel
theorem dX11_sumOf_107 : decode cX11_sumOf 107 = .ok (.iload 5, 2) := by decide +kernel
theorem dX11_sumOf_109 : decode cX11_sumOf 109 = .ok (.iload 6, 2) := by decide +kernel
theorem dX11_sumOf_111 : decode cX11_sumOf 111 = .ok (.invokevirtual 407, 3) := by decide +kernel
theorem dX11_sumOf_114 : decode cX11_sumOf 114 = .ok (.istore 11, 2) := by decide +kernel
theorem dX11_sumOf_116 : decode cX11_sumOf 116 = .ok (.iload 8, 2) := by decide +kernel
theorem dX11_sumOf_118 : decode cX11_sumOf 118 = .ok (.iload 11, 2) := by decide +kernel
theorem dX11_sumOf_120 : decode cX11_sumOf 120 = .ok (.ifCond .eq 7, 3) := by decide +kernel
theorem dX11_sumOf_123 : decode cX11_sumOf 123 = .ok (.iconst 1, 1) := by decide +kernel
theorem dX11_sumOf_124 : decode cX11_sumOf 124 = .ok (.goto 4, 3) := by decide +kernel
theorem dX11_sumOf_127 : decode cX11_sumOf 127 = .ok (.iconst 0, 1) := by decide +kernel
theorem dX11_sumOf_128 : decode cX11_sumOf 128 = .ok (.iadd, 1) := by decide +kernel
theorem dX11_sumOf_129 : decode cX11_sumOf 129 = .ok (.istore 8, 2) := by decide +kernel
theorem dX11_sumOf_131 : decode cX11_sumOf 131 = .ok (.iload 9, 2) := by decide +kernel
theorem dX11_sumOf_133 : decode cX11_sumOf 133 = .ok (.iload 11, 2) := by decide +kernel
theorem dX11_sumOf_135 : decode cX11_sumOf 135 = .ok (.ifCond .eq 13, 3) := by decide +kernel
theorem dX11_sumOf_138 : decode cX11_sumOf 138 = .ok (.iload 10, 2) := by decide +kernel
theorem dX11_sumOf_140 : decode cX11_sumOf 140 = .ok (.iload_n 1, 1) := by decide +kernel
theorem dX11_sumOf_141 : decode cX11_sumOf 141 = .ok (.if_icmp .ge 7, 3) := by decide +kernel
theorem dX11_sumOf_144 : decode cX11_sumOf 144 = .ok (.iconst 1, 1) := by decide +kernel
theorem dX11_sumOf_145 : decode cX11_sumOf 145 = .ok (.goto 4, 3) := by decide +kernel
theorem dX11_sumOf_148 : decode cX11_sumOf 148 = .ok (.iconst 0, 1) := by decide +kernel
theorem dX11_sumOf_149 : decode cX11_sumOf 149 = .ok (.iadd, 1) := by decide +kernel
theorem dX11_sumOf_150 : decode cX11_sumOf 150 = .ok (.istore 9, 2) := by decide +kernel
theorem dX11_sumOf_152 : decode cX11_sumOf 152 = .ok (.iinc 10 1, 3) := by decide +kernel
theorem dX11_sumOf_155 : decode cX11_sumOf 155 = .ok (.goto (-65), 3) := by decide +kernel
theorem dX11_sumOf_158 : decode cX11_sumOf 158 = .ok (.iload 8, 2) := by decide +kernel
theorem dX11_sumOf_160 : decode cX11_sumOf 160 = .ok (.ifCond .le 89, 3) := by decide +kernel
theorem dX11_sumOf_163 : decode cX11_sumOf 163 = .ok (.aload_n 0, 1) := by decide +kernel
theorem dX11_sumOf_164 : decode cX11_sumOf 164 = .ok (.iconst 2, 1) := by decide +kernel
theorem dX11_sumOf_165 : decode cX11_sumOf 165 = .ok (.iload 5, 2) := by decide +kernel
theorem dX11_sumOf_167 : decode cX11_sumOf 167 = .ok (.iload 6, 2) := by decide +kernel
theorem dX11_sumOf_169 : decode cX11_sumOf 169 = .ok (.iconst 1, 1) := by decide +kernel
theorem dX11_sumOf_170 : decode cX11_sumOf 170 = .ok (.isub, 1) := by decide +kernel
theorem dX11_sumOf_171 : decode cX11_sumOf 171 = .ok (.iload 6, 2) := by decide +kernel
theorem dX11_sumOf_173 : decode cX11_sumOf 173 = .ok (.iconst 1, 1) := by decide +kernel
theorem dX11_sumOf_174 : decode cX11_sumOf 174 = .ok (.isub, 1) := by decide +kernel
theorem dX11_sumOf_175 : decode cX11_sumOf 175 = .ok (.invokevirtual 193, 3) := by decide +kernel
theorem dX11_sumOf_178 : decode cX11_sumOf 178 = .ok (.istore 10, 2) := by decide +kernel
theorem dX11_sumOf_180 : decode cX11_sumOf 180 = .ok (.iload_n 1, 1) := by decide +kernel
theorem dX11_sumOf_181 : decode cX11_sumOf 181 = .ok (.iconst (-1), 1) := by decide +kernel
theorem dX11_sumOf_182 : decode cX11_sumOf 182 = .ok (.if_icmp .eq 19, 3) := by decide +kernel
theorem dX11_sumOf_185 : decode cX11_sumOf 185 = .ok (.aload_n 0, 1) := by decide +kernel
theorem dX11_sumOf_186 : decode cX11_sumOf 186 = .ok (.iload_n 1, 1) := by decide +kernel
theorem dX11_sumOf_187 : decode cX11_sumOf 187 = .ok (.iload 5, 2) := by decide +kernel
theorem dX11_sumOf_189 : decode cX11_sumOf 189 = .ok (.iload 6, 2) := by decide +kernel
theorem dX11_sumOf_191 : decode cX11_sumOf 191 = .ok (.invokevirtual 407, 3) := by decide +kernel
theorem dX11_sumOf_194 : decode cX11_sumOf 194 = .ok (.ifCond .eq 7, 3) := by decide +kernel
theorem dX11_sumOf_197 : decode cX11_sumOf 197 = .ok (.iconst 1, 1) := by decide +kernel
theorem dX11_sumOf_198 : decode cX11_sumOf 198 = .ok (.goto 4, 3) := by decide +kernel
theorem dX11_sumOf_201 : decode cX11_sumOf 201 = .ok (.iconst 0, 1) := by decide +kernel
theorem dX11_sumOf_202 : decode cX11_sumOf 202 = .ok (.istore 11, 2) := by decide +kernel
theorem dX11_sumOf_204 : decode cX11_sumOf 204 = .ok (.lload_n 3, 1) := by decide +kernel
theorem dX11_sumOf_205 : decode cX11_sumOf 205 = .ok (.iload_n 1, 1) := by decide +kernel
theorem dX11_sumOf_206 : decode cX11_sumOf 206 = .ok (.iconst (-1), 1) := by decide +kernel
theorem dX11_sumOf_207 : decode cX11_sumOf 207 = .ok (.if_icmp .ne 9, 3) := by decide +kernel
theorem dX11_sumOf_210 : decode cX11_sumOf 210 = .ok (.iload 10, 2) := by decide +kernel
theorem dX11_sumOf_212 : decode cX11_sumOf 212 = .ok (.i2l, 1) := by decide +kernel
theorem dX11_sumOf_213 : decode cX11_sumOf 213 = .ok (.goto 34, 3) := by decide +kernel
theorem dX11_sumOf_216 : decode cX11_sumOf 216 = .ok (.iload 11, 2) := by decide +kernel
theorem dX11_sumOf_218 : decode cX11_sumOf 218 = .ok (.ifCond .eq 28, 3) := by decide +kernel
theorem dX11_sumOf_221 : decode cX11_sumOf 221 = .ok (.iload 10, 2) := by decide +kernel
theorem dX11_sumOf_223 : decode cX11_sumOf 223 = .ok (.iload 8, 2) := by decide +kernel
theorem dX11_sumOf_225 : decode cX11_sumOf 225 = .ok (.idiv, 1) := by decide +kernel
theorem dX11_sumOf_226 : decode cX11_sumOf 226 = .ok (.iload 9, 2) := by decide +kernel
theorem dX11_sumOf_228 : decode cX11_sumOf 228 = .ok (.iload 10, 2) := by decide +kernel
theorem dX11_sumOf_230 : decode cX11_sumOf 230 = .ok (.iload 8, 2) := by decide +kernel
theorem dX11_sumOf_232 : decode cX11_sumOf 232 = .ok (.irem, 1) := by decide +kernel
theorem dX11_sumOf_233 : decode cX11_sumOf 233 = .ok (.if_icmp .ge 7, 3) := by decide +kernel
theorem dX11_sumOf_236 : decode cX11_sumOf 236 = .ok (.iconst 1, 1) := by decide +kernel
theorem dX11_sumOf_237 : decode cX11_sumOf 237 = .ok (.goto 4, 3) := by decide +kernel
theorem dX11_sumOf_240 : decode cX11_sumOf 240 = .ok (.iconst 0, 1) := by decide +kernel
theorem dX11_sumOf_241 : decode cX11_sumOf 241 = .ok (.iadd, 1) := by decide +kernel
theorem dX11_sumOf_242 : decode cX11_sumOf 242 = .ok (.i2l, 1) := by decide +kernel
theorem dX11_sumOf_243 : decode cX11_sumOf 243 = .ok (.goto 4, 3) := by decide +kernel
theorem dX11_sumOf_246 : decode cX11_sumOf 246 = .ok (.lconst 0, 1) := by decide +kernel
theorem dX11_sumOf_247 : decode cX11_sumOf 247 = .ok (.ladd, 1) := by decide +kernel
theorem dX11_sumOf_248 : decode cX11_sumOf 248 = .ok (.lstore_n 3, 1) := by decide +kernel
theorem dX11_sumOf_249 : decode cX11_sumOf 249 = .ok (.iinc 5 1, 3) := by decide +kernel
theorem dX11_sumOf_252 : decode cX11_sumOf 252 = .ok (.goto (-247), 3) := by decide +kernel
theorem dX11_sumOf_255 : decode cX11_sumOf 255 = .ok (.lload_n 3, 1) := by decide +kernel
theorem dX11_sumOf_256 : decode cX11_sumOf 256 = .ok (.lreturn, 1) := by decide +kernel
set_option maxRecDepth 100000 in
theorem t_M_sumOf_J249 (hC : CX z ad x cX11_sumOf RX11 12 (some .long)) (hR : x.2.2.1 = rmk 621 0 0) (k_5 : MS → Int32 → Int32 → Int64 → Int32 → Option (Int64 × MS)) (hk_5 : ∀ (σ : MS) (a1 : Int32) (a2 : Int32) (a3 : Int64) (a5 : Int32), AT z x 12 (wM z τ) rJ (eqA ad) 0 0 0 0 ad 5 [(0, .ref 0), (1, .int a1), (2, .int a2), (3, .long a3), (5, .int a5)] [] σ (k_5 σ a1 a2 a3 a5)) (σ : MS) (a1 : Int32) (a2 : Int32) (a3 : Int64) (a5 : Int32) : AT z x 12 (wM z τ) rJ (eqA ad) 0 0 0 0 ad 249 [(0, .ref 0), (1, .int a1), (2, .int a2), (3, .long a3), (5, .int a5)] [] σ (M_sumOf_J249 k_5 σ a1 a2 a3 a5) := by
  unfold M_sumOf_J249
  refine at_iinc (j := 4) (v := a5 + 1) (lv' := [(5, .int (a5 + 1)), (0, .ref 0), (1, .int a1), (2, .int a2), (3, .long a3)]) hC dX11_sumOf_249 rfl rfl (by decide) rfl ?_
  refine at_goto (tgt := 5) hC dX11_sumOf_252 rfl ?_
  refine at_drop (lv' := [(0, .ref 0), (1, .int a1), (2, .int a2), (3, .long a3), (5, .int (a5 + 1))]) [1, 2, 3, 4, 0] rfl ?_
  exact hk_5 σ a1 a2 a3 (a5 + 1)
set_option maxRecDepth 100000 in
theorem t_M_sumOf_J247 (hC : CX z ad x cX11_sumOf RX11 12 (some .long)) (hR : x.2.2.1 = rmk 621 0 0) (k_5 : MS → Int32 → Int32 → Int64 → Int32 → Option (Int64 × MS)) (hk_5 : ∀ (σ : MS) (a1 : Int32) (a2 : Int32) (a3 : Int64) (a5 : Int32), AT z x 12 (wM z τ) rJ (eqA ad) 0 0 0 0 ad 5 [(0, .ref 0), (1, .int a1), (2, .int a2), (3, .long a3), (5, .int a5)] [] σ (k_5 σ a1 a2 a3 a5)) (σ : MS) (a1 : Int32) (a2 : Int32) (a5 : Int32) (s0 : Int64) (s1 : Int64) : AT z x 12 (wM z τ) rJ (eqA ad) 0 0 0 0 ad 247 [(0, .ref 0), (1, .int a1), (2, .int a2), (5, .int a5)] [.long s0, .long s1] σ (M_sumOf_J247 k_5 σ a1 a2 a5 s0 s1) := by
  unfold M_sumOf_J247
  refine at_ladd hC dX11_sumOf_247 ?_
  refine at_lstore_n (lv' := [(3, .long (s1 + s0)), (0, .ref 0), (1, .int a1), (2, .int a2), (5, .int a5)]) hC rfl dX11_sumOf_248 (by decide) rfl ?_
  refine at_drop (lv' := [(0, .ref 0), (1, .int a1), (2, .int a2), (3, .long (s1 + s0)), (5, .int a5)]) [1, 2, 3, 0, 4] rfl ?_
  exact t_M_sumOf_J249 hC hR k_5 hk_5 σ a1 a2 (s1 + s0) a5
set_option maxRecDepth 100000 in
theorem t_M_sumOf_J241 (hC : CX z ad x cX11_sumOf RX11 12 (some .long)) (hR : x.2.2.1 = rmk 621 0 0) (k_5 : MS → Int32 → Int32 → Int64 → Int32 → Option (Int64 × MS)) (hk_5 : ∀ (σ : MS) (a1 : Int32) (a2 : Int32) (a3 : Int64) (a5 : Int32), AT z x 12 (wM z τ) rJ (eqA ad) 0 0 0 0 ad 5 [(0, .ref 0), (1, .int a1), (2, .int a2), (3, .long a3), (5, .int a5)] [] σ (k_5 σ a1 a2 a3 a5)) (σ : MS) (a1 : Int32) (a2 : Int32) (a5 : Int32) (s0 : Int32) (s1 : Int32) (s2 : Int64) : AT z x 12 (wM z τ) rJ (eqA ad) 0 0 0 0 ad 241 [(0, .ref 0), (1, .int a1), (2, .int a2), (5, .int a5)] [.int s0, .int s1, .long s2] σ (M_sumOf_J241 k_5 σ a1 a2 a5 s0 s1 s2) := by
  unfold M_sumOf_J241
  refine at_iadd hC dX11_sumOf_241 ?_
  refine at_i2l hC dX11_sumOf_242 ?_
  refine at_goto (tgt := 247) hC dX11_sumOf_243 rfl ?_
  exact t_M_sumOf_J247 hC hR k_5 hk_5 σ a1 a2 a5 ((s1 + s0).toInt64) s2
set_option maxRecDepth 100000 in
theorem t_M_sumOf_J202 (hC : CX z ad x cX11_sumOf RX11 12 (some .long)) (hR : x.2.2.1 = rmk 621 0 0) (k_5 : MS → Int32 → Int32 → Int64 → Int32 → Option (Int64 × MS)) (hk_5 : ∀ (σ : MS) (a1 : Int32) (a2 : Int32) (a3 : Int64) (a5 : Int32), AT z x 12 (wM z τ) rJ (eqA ad) 0 0 0 0 ad 5 [(0, .ref 0), (1, .int a1), (2, .int a2), (3, .long a3), (5, .int a5)] [] σ (k_5 σ a1 a2 a3 a5)) (σ : MS) (a1 : Int32) (a2 : Int32) (a3 : Int64) (a5 : Int32) (a8 : Int32) (a9 : Int32) (a10 : Int32) (s0 : Int32) : AT z x 12 (wM z τ) rJ (eqA ad) 0 0 0 0 ad 202 [(0, .ref 0), (1, .int a1), (2, .int a2), (3, .long a3), (5, .int a5), (8, .int a8), (9, .int a9), (10, .int a10)] [.int s0] σ (M_sumOf_J202 k_5 σ a1 a2 a3 a5 a8 a9 a10 s0) := by
  unfold M_sumOf_J202
  refine at_istore (lv' := [(11, .int s0), (0, .ref 0), (1, .int a1), (2, .int a2), (3, .long a3), (5, .int a5), (8, .int a8), (9, .int a9), (10, .int a10)]) hC dX11_sumOf_202 (by decide) rfl ?_
  refine at_lload_n (j := 4) hC rfl rfl dX11_sumOf_204 ?_
  refine at_iload_n (j := 2) hC rfl rfl dX11_sumOf_205 ?_
  refine at_iconst hC ic_m1 dX11_sumOf_206 ?_
  refine at_icmp_ne (tgt := 216) hC dX11_sumOf_207 rfl (fun _ => ?_) (fun _ => ?_)
  · refine at_iload (j := 0) hC rfl dX11_sumOf_216 ?_
    refine at_if_eq (tgt := 246) hC dX11_sumOf_218 rfl (fun _ => ?_) (fun _ => ?_)
    · refine at_lconst hC lc_0 dX11_sumOf_246 ?_
      refine at_drop (lv' := [(0, .ref 0), (1, .int a1), (2, .int a2), (5, .int a5)]) [1, 2, 3, 5] rfl ?_
      exact t_M_sumOf_J247 hC hR k_5 hk_5 σ a1 a2 a5 0 a3
    · refine at_iload (j := 8) hC rfl dX11_sumOf_221 ?_
      refine at_iload (j := 6) hC rfl dX11_sumOf_223 ?_
      refine at_nz (fun hne => ?_)
      refine at_idiv hC hne dX11_sumOf_225 ?_
      refine at_iload (j := 7) hC rfl dX11_sumOf_226 ?_
      refine at_iload (j := 8) hC rfl dX11_sumOf_228 ?_
      refine at_iload (j := 6) hC rfl dX11_sumOf_230 ?_
      refine at_nz (fun hne => ?_)
      refine at_irem hC hne dX11_sumOf_232 ?_
      refine at_icmp_ge (tgt := 240) hC dX11_sumOf_233 rfl (fun _ => ?_) (fun _ => ?_)
      · refine at_iconst hC ic_0 dX11_sumOf_240 ?_
        refine at_drop (lv' := [(0, .ref 0), (1, .int a1), (2, .int a2), (5, .int a5)]) [1, 2, 3, 5] rfl ?_
        exact t_M_sumOf_J241 hC hR k_5 hk_5 σ a1 a2 a5 0 (a10 / a8) a3
      · refine at_iconst hC ic_1 dX11_sumOf_236 ?_
        refine at_goto (tgt := 241) hC dX11_sumOf_237 rfl ?_
        refine at_drop (lv' := [(0, .ref 0), (1, .int a1), (2, .int a2), (5, .int a5)]) [1, 2, 3, 5] rfl ?_
        exact t_M_sumOf_J241 hC hR k_5 hk_5 σ a1 a2 a5 1 (a10 / a8) a3
  · refine at_iload (j := 8) hC rfl dX11_sumOf_210 ?_
    refine at_i2l hC dX11_sumOf_212 ?_
    refine at_goto (tgt := 247) hC dX11_sumOf_213 rfl ?_
    refine at_drop (lv' := [(0, .ref 0), (1, .int a1), (2, .int a2), (5, .int a5)]) [1, 2, 3, 5] rfl ?_
    exact t_M_sumOf_J247 hC hR k_5 hk_5 σ a1 a2 a5 a10.toInt64 a3
set_option maxRecDepth 100000 in
theorem t_M_sumOf_J201 (hC : CX z ad x cX11_sumOf RX11 12 (some .long)) (hR : x.2.2.1 = rmk 621 0 0) (k_5 : MS → Int32 → Int32 → Int64 → Int32 → Option (Int64 × MS)) (hk_5 : ∀ (σ : MS) (a1 : Int32) (a2 : Int32) (a3 : Int64) (a5 : Int32), AT z x 12 (wM z τ) rJ (eqA ad) 0 0 0 0 ad 5 [(0, .ref 0), (1, .int a1), (2, .int a2), (3, .long a3), (5, .int a5)] [] σ (k_5 σ a1 a2 a3 a5)) (σ : MS) (a1 : Int32) (a2 : Int32) (a3 : Int64) (a5 : Int32) (a8 : Int32) (a9 : Int32) (a10 : Int32) : AT z x 12 (wM z τ) rJ (eqA ad) 0 0 0 0 ad 201 [(0, .ref 0), (1, .int a1), (2, .int a2), (3, .long a3), (5, .int a5), (8, .int a8), (9, .int a9), (10, .int a10)] [] σ (M_sumOf_J201 k_5 σ a1 a2 a3 a5 a8 a9 a10) := by
  unfold M_sumOf_J201
  refine at_iconst hC ic_0 dX11_sumOf_201 ?_
  exact t_M_sumOf_J202 hC hR k_5 hk_5 σ a1 a2 a3 a5 a8 a9 a10 0
set_option maxRecDepth 100000 in
theorem t_M_sumOf_J158 (hC : CX z ad x cX11_sumOf RX11 12 (some .long)) (hR : x.2.2.1 = rmk 621 0 0) (k_5 : MS → Int32 → Int32 → Int64 → Int32 → Option (Int64 × MS)) (hk_5 : ∀ (σ : MS) (a1 : Int32) (a2 : Int32) (a3 : Int64) (a5 : Int32), AT z x 12 (wM z τ) rJ (eqA ad) 0 0 0 0 ad 5 [(0, .ref 0), (1, .int a1), (2, .int a2), (3, .long a3), (5, .int a5)] [] σ (k_5 σ a1 a2 a3 a5)) (σ : MS) (a1 : Int32) (a2 : Int32) (a3 : Int64) (a5 : Int32) (a6 : Int32) (a8 : Int32) (a9 : Int32) : AT z x 12 (wM z τ) rJ (eqA ad) 0 0 0 0 ad 158 [(0, .ref 0), (1, .int a1), (2, .int a2), (3, .long a3), (5, .int a5), (6, .int a6), (8, .int a8), (9, .int a9)] [] σ (M_sumOf_J158 k_5 σ a1 a2 a3 a5 a6 a8 a9) := by
  unfold M_sumOf_J158
  refine at_iload (j := 6) hC rfl dX11_sumOf_158 ?_
  refine at_if_le (tgt := 249) hC dX11_sumOf_160 rfl (fun _ => ?_) (fun _ => ?_)
  · refine at_drop (lv' := [(0, .ref 0), (1, .int a1), (2, .int a2), (3, .long a3), (5, .int a5)]) [0, 1, 2, 3, 4] rfl ?_
    exact t_M_sumOf_J249 hC hR k_5 hk_5 σ a1 a2 a3 a5
  · refine at_aload_n (j := 0) hC rfl rfl dX11_sumOf_163 ?_
    refine at_iconst hC ic_2 dX11_sumOf_164 ?_
    refine at_iload (j := 4) hC rfl dX11_sumOf_165 ?_
    refine at_iload (j := 5) hC rfl dX11_sumOf_167 ?_
    refine at_iconst hC ic_1 dX11_sumOf_169 ?_
    refine at_isub hC dX11_sumOf_170 ?_
    refine at_iload (j := 5) hC rfl dX11_sumOf_171 ?_
    refine at_iconst hC ic_1 dX11_sumOf_173 ?_
    refine at_isub hC dX11_sumOf_174 ?_
    refine at_callVI hC hR lk_X11_193 (c_M_ruled σ 2 a5 (a6 - 1) (a6 - 1)) dX11_sumOf_175 recX11 rfl rfl ⟨by decide, by decide⟩ (Nat.le_of_ble_eq_true rfl) ⟨Nat.le_refl 0, Nat.le_refl 0⟩ (fun r3 r3s _ => ?_)
    refine at_istore (lv' := [(10, .int r3), (0, .ref 0), (1, .int a1), (2, .int a2), (3, .long a3), (5, .int a5), (6, .int a6), (8, .int a8), (9, .int a9)]) hC dX11_sumOf_178 (by decide) rfl ?_
    refine at_iload_n (j := 2) hC rfl rfl dX11_sumOf_180 ?_
    refine at_iconst hC ic_m1 dX11_sumOf_181 ?_
    refine at_icmp_eq (tgt := 201) hC dX11_sumOf_182 rfl (fun _ => ?_) (fun _ => ?_)
    · refine at_drop (lv' := [(0, .ref 0), (1, .int a1), (2, .int a2), (3, .long a3), (5, .int a5), (8, .int a8), (9, .int a9), (10, .int r3)]) [1, 2, 3, 4, 5, 7, 8, 0] rfl ?_
      exact t_M_sumOf_J201 hC hR k_5 hk_5 r3s a1 a2 a3 a5 a8 a9 r3
    · refine at_aload_n (j := 1) hC rfl rfl dX11_sumOf_185 ?_
      refine at_iload_n (j := 2) hC rfl rfl dX11_sumOf_186 ?_
      refine at_iload (j := 5) hC rfl dX11_sumOf_187 ?_
      refine at_iload (j := 6) hC rfl dX11_sumOf_189 ?_
      refine at_callVI hC hR lk_X11_407 (c_M_isHeir r3s a1 a5 a6) dX11_sumOf_191 recX11 rfl rfl ⟨by decide, by decide⟩ (Nat.le_of_ble_eq_true rfl) ⟨Nat.le_refl 0, Nat.le_refl 0⟩ (fun r4 r4s _ => ?_)
      refine at_if_eq (tgt := 201) hC dX11_sumOf_194 rfl (fun _ => ?_) (fun _ => ?_)
      · refine at_drop (lv' := [(0, .ref 0), (1, .int a1), (2, .int a2), (3, .long a3), (5, .int a5), (8, .int a8), (9, .int a9), (10, .int r3)]) [1, 2, 3, 4, 5, 7, 8, 0] rfl ?_
        exact t_M_sumOf_J201 hC hR k_5 hk_5 r4s a1 a2 a3 a5 a8 a9 r3
      · refine at_iconst hC ic_1 dX11_sumOf_197 ?_
        refine at_goto (tgt := 202) hC dX11_sumOf_198 rfl ?_
        refine at_drop (lv' := [(0, .ref 0), (1, .int a1), (2, .int a2), (3, .long a3), (5, .int a5), (8, .int a8), (9, .int a9), (10, .int r3)]) [1, 2, 3, 4, 5, 7, 8, 0] rfl ?_
        exact t_M_sumOf_J202 hC hR k_5 hk_5 r4s a1 a2 a3 a5 a8 a9 r3 1
set_option maxRecDepth 100000 in
theorem t_M_sumOf_J149 (hC : CX z ad x cX11_sumOf RX11 12 (some .long)) (hR : x.2.2.1 = rmk 621 0 0) (k_5 : MS → Int32 → Int32 → Int64 → Int32 → Option (Int64 × MS)) (hk_5 : ∀ (σ : MS) (a1 : Int32) (a2 : Int32) (a3 : Int64) (a5 : Int32), AT z x 12 (wM z τ) rJ (eqA ad) 0 0 0 0 ad 5 [(0, .ref 0), (1, .int a1), (2, .int a2), (3, .long a3), (5, .int a5)] [] σ (k_5 σ a1 a2 a3 a5)) (k_90 : MS → Int32 → Int32 → Int64 → Int32 → Int32 → Int32 → Int32 → Int32 → Int32 → Option (Int64 × MS)) (hk_90 : ∀ (σ : MS) (a1 : Int32) (a2 : Int32) (a3 : Int64) (a5 : Int32) (a6 : Int32) (a7 : Int32) (a8 : Int32) (a9 : Int32) (a10 : Int32), AT z x 12 (wM z τ) rJ (eqA ad) 0 0 0 0 ad 90 [(0, .ref 0), (1, .int a1), (2, .int a2), (3, .long a3), (5, .int a5), (6, .int a6), (7, .int a7), (8, .int a8), (9, .int a9), (10, .int a10)] [] σ (k_90 σ a1 a2 a3 a5 a6 a7 a8 a9 a10)) (σ : MS) (a1 : Int32) (a2 : Int32) (a3 : Int64) (a5 : Int32) (a6 : Int32) (a7 : Int32) (a8 : Int32) (a10 : Int32) (s0 : Int32) (s1 : Int32) : AT z x 12 (wM z τ) rJ (eqA ad) 0 0 0 0 ad 149 [(0, .ref 0), (1, .int a1), (2, .int a2), (3, .long a3), (5, .int a5), (6, .int a6), (7, .int a7), (8, .int a8), (10, .int a10)] [.int s0, .int s1] σ (M_sumOf_J149 k_5 k_90 σ a1 a2 a3 a5 a6 a7 a8 a10 s0 s1) := by
  unfold M_sumOf_J149
  refine at_iadd hC dX11_sumOf_149 ?_
  refine at_istore (lv' := [(9, .int (s1 + s0)), (0, .ref 0), (1, .int a1), (2, .int a2), (3, .long a3), (5, .int a5), (6, .int a6), (7, .int a7), (8, .int a8), (10, .int a10)]) hC dX11_sumOf_150 (by decide) rfl ?_
  refine at_iinc (j := 9) (v := a10 + 1) (lv' := [(10, .int (a10 + 1)), (9, .int (s1 + s0)), (0, .ref 0), (1, .int a1), (2, .int a2), (3, .long a3), (5, .int a5), (6, .int a6), (7, .int a7), (8, .int a8)]) hC dX11_sumOf_152 rfl rfl (by decide) rfl ?_
  refine at_goto (tgt := 90) hC dX11_sumOf_155 rfl ?_
  refine at_drop (lv' := [(0, .ref 0), (1, .int a1), (2, .int a2), (3, .long a3), (5, .int a5), (6, .int a6), (7, .int a7), (8, .int a8), (9, .int (s1 + s0)), (10, .int (a10 + 1))]) [2, 3, 4, 5, 6, 7, 8, 9, 1, 0] rfl ?_
  exact hk_90 σ a1 a2 a3 a5 a6 a7 a8 (s1 + s0) (a10 + 1)
set_option maxRecDepth 100000 in
theorem t_M_sumOf_J148 (hC : CX z ad x cX11_sumOf RX11 12 (some .long)) (hR : x.2.2.1 = rmk 621 0 0) (k_5 : MS → Int32 → Int32 → Int64 → Int32 → Option (Int64 × MS)) (hk_5 : ∀ (σ : MS) (a1 : Int32) (a2 : Int32) (a3 : Int64) (a5 : Int32), AT z x 12 (wM z τ) rJ (eqA ad) 0 0 0 0 ad 5 [(0, .ref 0), (1, .int a1), (2, .int a2), (3, .long a3), (5, .int a5)] [] σ (k_5 σ a1 a2 a3 a5)) (k_90 : MS → Int32 → Int32 → Int64 → Int32 → Int32 → Int32 → Int32 → Int32 → Int32 → Option (Int64 × MS)) (hk_90 : ∀ (σ : MS) (a1 : Int32) (a2 : Int32) (a3 : Int64) (a5 : Int32) (a6 : Int32) (a7 : Int32) (a8 : Int32) (a9 : Int32) (a10 : Int32), AT z x 12 (wM z τ) rJ (eqA ad) 0 0 0 0 ad 90 [(0, .ref 0), (1, .int a1), (2, .int a2), (3, .long a3), (5, .int a5), (6, .int a6), (7, .int a7), (8, .int a8), (9, .int a9), (10, .int a10)] [] σ (k_90 σ a1 a2 a3 a5 a6 a7 a8 a9 a10)) (σ : MS) (a1 : Int32) (a2 : Int32) (a3 : Int64) (a5 : Int32) (a6 : Int32) (a7 : Int32) (a8 : Int32) (a10 : Int32) (s0 : Int32) : AT z x 12 (wM z τ) rJ (eqA ad) 0 0 0 0 ad 148 [(0, .ref 0), (1, .int a1), (2, .int a2), (3, .long a3), (5, .int a5), (6, .int a6), (7, .int a7), (8, .int a8), (10, .int a10)] [.int s0] σ (M_sumOf_J148 k_5 k_90 σ a1 a2 a3 a5 a6 a7 a8 a10 s0) := by
  unfold M_sumOf_J148
  refine at_iconst hC ic_0 dX11_sumOf_148 ?_
  exact t_M_sumOf_J149 hC hR k_5 hk_5 k_90 hk_90 σ a1 a2 a3 a5 a6 a7 a8 a10 0 s0
set_option maxRecDepth 100000 in
theorem t_M_sumOf_J128 (hC : CX z ad x cX11_sumOf RX11 12 (some .long)) (hR : x.2.2.1 = rmk 621 0 0) (k_5 : MS → Int32 → Int32 → Int64 → Int32 → Option (Int64 × MS)) (hk_5 : ∀ (σ : MS) (a1 : Int32) (a2 : Int32) (a3 : Int64) (a5 : Int32), AT z x 12 (wM z τ) rJ (eqA ad) 0 0 0 0 ad 5 [(0, .ref 0), (1, .int a1), (2, .int a2), (3, .long a3), (5, .int a5)] [] σ (k_5 σ a1 a2 a3 a5)) (k_90 : MS → Int32 → Int32 → Int64 → Int32 → Int32 → Int32 → Int32 → Int32 → Int32 → Option (Int64 × MS)) (hk_90 : ∀ (σ : MS) (a1 : Int32) (a2 : Int32) (a3 : Int64) (a5 : Int32) (a6 : Int32) (a7 : Int32) (a8 : Int32) (a9 : Int32) (a10 : Int32), AT z x 12 (wM z τ) rJ (eqA ad) 0 0 0 0 ad 90 [(0, .ref 0), (1, .int a1), (2, .int a2), (3, .long a3), (5, .int a5), (6, .int a6), (7, .int a7), (8, .int a8), (9, .int a9), (10, .int a10)] [] σ (k_90 σ a1 a2 a3 a5 a6 a7 a8 a9 a10)) (σ : MS) (a1 : Int32) (a2 : Int32) (a3 : Int64) (a5 : Int32) (a6 : Int32) (a7 : Int32) (a9 : Int32) (a10 : Int32) (a11 : Int32) (s0 : Int32) (s1 : Int32) : AT z x 12 (wM z τ) rJ (eqA ad) 0 0 0 0 ad 128 [(0, .ref 0), (1, .int a1), (2, .int a2), (3, .long a3), (5, .int a5), (6, .int a6), (7, .int a7), (9, .int a9), (10, .int a10), (11, .int a11)] [.int s0, .int s1] σ (M_sumOf_J128 k_5 k_90 σ a1 a2 a3 a5 a6 a7 a9 a10 a11 s0 s1) := by
  unfold M_sumOf_J128
  refine at_iadd hC dX11_sumOf_128 ?_
  refine at_istore (lv' := [(8, .int (s1 + s0)), (0, .ref 0), (1, .int a1), (2, .int a2), (3, .long a3), (5, .int a5), (6, .int a6), (7, .int a7), (9, .int a9), (10, .int a10), (11, .int a11)]) hC dX11_sumOf_129 (by decide) rfl ?_
  refine at_iload (j := 8) hC rfl dX11_sumOf_131 ?_
  refine at_iload (j := 10) hC rfl dX11_sumOf_133 ?_
  refine at_if_eq (tgt := 148) hC dX11_sumOf_135 rfl (fun _ => ?_) (fun _ => ?_)
  · refine at_drop (lv' := [(0, .ref 0), (1, .int a1), (2, .int a2), (3, .long a3), (5, .int a5), (6, .int a6), (7, .int a7), (8, .int (s1 + s0)), (10, .int a10)]) [1, 2, 3, 4, 5, 6, 7, 0, 9] rfl ?_
    exact t_M_sumOf_J148 hC hR k_5 hk_5 k_90 hk_90 σ a1 a2 a3 a5 a6 a7 (s1 + s0) a10 a9
  · refine at_iload (j := 9) hC rfl dX11_sumOf_138 ?_
    refine at_iload_n (j := 2) hC rfl rfl dX11_sumOf_140 ?_
    refine at_icmp_ge (tgt := 148) hC dX11_sumOf_141 rfl (fun _ => ?_) (fun _ => ?_)
    · refine at_drop (lv' := [(0, .ref 0), (1, .int a1), (2, .int a2), (3, .long a3), (5, .int a5), (6, .int a6), (7, .int a7), (8, .int (s1 + s0)), (10, .int a10)]) [1, 2, 3, 4, 5, 6, 7, 0, 9] rfl ?_
      exact t_M_sumOf_J148 hC hR k_5 hk_5 k_90 hk_90 σ a1 a2 a3 a5 a6 a7 (s1 + s0) a10 a9
    · refine at_iconst hC ic_1 dX11_sumOf_144 ?_
      refine at_goto (tgt := 149) hC dX11_sumOf_145 rfl ?_
      refine at_drop (lv' := [(0, .ref 0), (1, .int a1), (2, .int a2), (3, .long a3), (5, .int a5), (6, .int a6), (7, .int a7), (8, .int (s1 + s0)), (10, .int a10)]) [1, 2, 3, 4, 5, 6, 7, 0, 9] rfl ?_
      exact t_M_sumOf_J149 hC hR k_5 hk_5 k_90 hk_90 σ a1 a2 a3 a5 a6 a7 (s1 + s0) a10 1 a9
set_option maxRecDepth 100000 in
theorem t_M_sumOf_L90 (hC : CX z ad x cX11_sumOf RX11 12 (some .long)) (hR : x.2.2.1 = rmk 621 0 0) (k_5 : MS → Int32 → Int32 → Int64 → Int32 → Option (Int64 × MS)) (hk_5 : ∀ (σ : MS) (a1 : Int32) (a2 : Int32) (a3 : Int64) (a5 : Int32), AT z x 12 (wM z τ) rJ (eqA ad) 0 0 0 0 ad 5 [(0, .ref 0), (1, .int a1), (2, .int a2), (3, .long a3), (5, .int a5)] [] σ (k_5 σ a1 a2 a3 a5)) (n : Nat) (σ : MS) (a1 : Int32) (a2 : Int32) (a3 : Int64) (a5 : Int32) (a6 : Int32) (a7 : Int32) (a8 : Int32) (a9 : Int32) (a10 : Int32) : AT z x 12 (wM z τ) rJ (eqA ad) 0 0 0 0 ad 90 [(0, .ref 0), (1, .int a1), (2, .int a2), (3, .long a3), (5, .int a5), (6, .int a6), (7, .int a7), (8, .int a8), (9, .int a9), (10, .int a10)] [] σ (M_sumOf_L90 k_5 n σ a1 a2 a3 a5 a6 a7 a8 a9 a10) := by
  revert σ a1 a2 a3 a5 a6 a7 a8 a9 a10
  show ∀ (σ : MS) (a1 : Int32) (a2 : Int32) (a3 : Int64) (a5 : Int32) (a6 : Int32) (a7 : Int32) (a8 : Int32) (a9 : Int32) (a10 : Int32), AT z x 12 (wM z τ) rJ (eqA ad) 0 0 0 0 ad 90 [(0, .ref 0), (1, .int a1), (2, .int a2), (3, .long a3), (5, .int a5), (6, .int a6), (7, .int a7), (8, .int a8), (9, .int a9), (10, .int a10)] [] σ (M_sumOf_L90_r k_5 n σ a1 a2 a3 a5 a6 a7 a8 a9 a10)
  induction n with
  | zero => intro σ a1 a2 a3 a5 a6 a7 a8 a9 a10; exact at_none
  | succ n hk_90 =>
    intro σ a1 a2 a3 a5 a6 a7 a8 a9 a10
    unfold M_sumOf_L90_r
    refine at_iload (j := 9) hC rfl dX11_sumOf_90 ?_
    refine at_aload_n (j := 0) hC rfl rfl dX11_sumOf_92 ?_
    refine gf_X11_126 hC dX11_sumOf_93 ?_
    refine at_icmp_ge (tgt := 158) hC dX11_sumOf_96 rfl (fun _ => ?_) (fun _ => ?_)
    · refine at_drop (lv' := [(0, .ref 0), (1, .int a1), (2, .int a2), (3, .long a3), (5, .int a5), (6, .int a6), (8, .int a8), (9, .int a9)]) [0, 1, 2, 3, 4, 5, 7, 8] rfl ?_
      exact t_M_sumOf_J158 hC hR k_5 hk_5 σ a1 a2 a3 a5 a6 a8 a9
    · refine at_iload (j := 6) hC rfl dX11_sumOf_99 ?_
      refine at_if_eq (tgt := 158) hC dX11_sumOf_101 rfl (fun _ => ?_) (fun _ => ?_)
      · refine at_drop (lv' := [(0, .ref 0), (1, .int a1), (2, .int a2), (3, .long a3), (5, .int a5), (6, .int a6), (8, .int a8), (9, .int a9)]) [0, 1, 2, 3, 4, 5, 7, 8] rfl ?_
        exact t_M_sumOf_J158 hC hR k_5 hk_5 σ a1 a2 a3 a5 a6 a8 a9
      · refine at_aload_n (j := 0) hC rfl rfl dX11_sumOf_104 ?_
        refine at_iload (j := 9) hC rfl dX11_sumOf_105 ?_
        refine at_iload (j := 4) hC rfl dX11_sumOf_107 ?_
        refine at_iload (j := 5) hC rfl dX11_sumOf_109 ?_
        refine at_callVI hC hR lk_X11_407 (c_M_isHeir σ a10 a5 a6) dX11_sumOf_111 recX11 rfl rfl ⟨by decide, by decide⟩ (Nat.le_of_ble_eq_true rfl) ⟨Nat.le_refl 0, Nat.le_refl 0⟩ (fun r5 r5s _ => ?_)
        refine at_istore (lv' := [(11, .int r5), (0, .ref 0), (1, .int a1), (2, .int a2), (3, .long a3), (5, .int a5), (6, .int a6), (7, .int a7), (8, .int a8), (9, .int a9), (10, .int a10)]) hC dX11_sumOf_114 (by decide) rfl ?_
        refine at_iload (j := 8) hC rfl dX11_sumOf_116 ?_
        refine at_iload (j := 0) hC rfl dX11_sumOf_118 ?_
        refine at_if_eq (tgt := 127) hC dX11_sumOf_120 rfl (fun _ => ?_) (fun _ => ?_)
        · refine at_iconst hC ic_0 dX11_sumOf_127 ?_
          refine at_drop (lv' := [(0, .ref 0), (1, .int a1), (2, .int a2), (3, .long a3), (5, .int a5), (6, .int a6), (7, .int a7), (9, .int a9), (10, .int a10), (11, .int r5)]) [1, 2, 3, 4, 5, 6, 7, 9, 10, 0] rfl ?_
          exact t_M_sumOf_J128 hC hR k_5 hk_5 (M_sumOf_L90_r k_5 n) hk_90 r5s a1 a2 a3 a5 a6 a7 a9 a10 r5 0 a8
        · refine at_iconst hC ic_1 dX11_sumOf_123 ?_
          refine at_goto (tgt := 128) hC dX11_sumOf_124 rfl ?_
          refine at_drop (lv' := [(0, .ref 0), (1, .int a1), (2, .int a2), (3, .long a3), (5, .int a5), (6, .int a6), (7, .int a7), (9, .int a9), (10, .int a10), (11, .int r5)]) [1, 2, 3, 4, 5, 6, 7, 9, 10, 0] rfl ?_
          exact t_M_sumOf_J128 hC hR k_5 hk_5 (M_sumOf_L90_r k_5 n) hk_90 r5s a1 a2 a3 a5 a6 a7 a9 a10 r5 1 a8
set_option maxRecDepth 100000 in
theorem t_M_sumOf_J79 (hC : CX z ad x cX11_sumOf RX11 12 (some .long)) (hR : x.2.2.1 = rmk 621 0 0) (k_5 : MS → Int32 → Int32 → Int64 → Int32 → Option (Int64 × MS)) (hk_5 : ∀ (σ : MS) (a1 : Int32) (a2 : Int32) (a3 : Int64) (a5 : Int32), AT z x 12 (wM z τ) rJ (eqA ad) 0 0 0 0 ad 5 [(0, .ref 0), (1, .int a1), (2, .int a2), (3, .long a3), (5, .int a5)] [] σ (k_5 σ a1 a2 a3 a5)) (σ : MS) (a1 : Int32) (a2 : Int32) (a3 : Int64) (a5 : Int32) (a6 : Int32) (s0 : Int32) : AT z x 12 (wM z τ) rJ (eqA ad) 0 0 0 0 ad 79 [(0, .ref 0), (1, .int a1), (2, .int a2), (3, .long a3), (5, .int a5), (6, .int a6)] [.int s0] σ (M_sumOf_J79 k_5 σ a1 a2 a3 a5 a6 s0) := by
  unfold M_sumOf_J79
  refine at_istore (lv' := [(7, .int s0), (0, .ref 0), (1, .int a1), (2, .int a2), (3, .long a3), (5, .int a5), (6, .int a6)]) hC dX11_sumOf_79 (by decide) rfl ?_
  refine at_iconst hC ic_0 dX11_sumOf_81 ?_
  refine at_istore (lv' := [(8, .int 0), (7, .int s0), (0, .ref 0), (1, .int a1), (2, .int a2), (3, .long a3), (5, .int a5), (6, .int a6)]) hC dX11_sumOf_82 (by decide) rfl ?_
  refine at_iconst hC ic_0 dX11_sumOf_84 ?_
  refine at_istore (lv' := [(9, .int 0), (8, .int 0), (7, .int s0), (0, .ref 0), (1, .int a1), (2, .int a2), (3, .long a3), (5, .int a5), (6, .int a6)]) hC dX11_sumOf_85 (by decide) rfl ?_
  refine at_iconst hC ic_0 dX11_sumOf_87 ?_
  refine at_istore (lv' := [(10, .int 0), (9, .int 0), (8, .int 0), (7, .int s0), (0, .ref 0), (1, .int a1), (2, .int a2), (3, .long a3), (5, .int a5), (6, .int a6)]) hC dX11_sumOf_88 (by decide) rfl ?_
  refine at_drop (lv' := [(0, .ref 0), (1, .int a1), (2, .int a2), (3, .long a3), (5, .int a5), (6, .int a6), (7, .int s0), (8, .int 0), (9, .int 0), (10, .int 0)]) [4, 5, 6, 7, 8, 9, 3, 2, 1, 0] rfl ?_
  exact t_M_sumOf_L90 hC hR k_5 hk_5 100000 σ a1 a2 a3 a5 a6 s0 0 0 0
set_option maxRecDepth 100000 in
theorem t_M_sumOf_J78 (hC : CX z ad x cX11_sumOf RX11 12 (some .long)) (hR : x.2.2.1 = rmk 621 0 0) (k_5 : MS → Int32 → Int32 → Int64 → Int32 → Option (Int64 × MS)) (hk_5 : ∀ (σ : MS) (a1 : Int32) (a2 : Int32) (a3 : Int64) (a5 : Int32), AT z x 12 (wM z τ) rJ (eqA ad) 0 0 0 0 ad 5 [(0, .ref 0), (1, .int a1), (2, .int a2), (3, .long a3), (5, .int a5)] [] σ (k_5 σ a1 a2 a3 a5)) (σ : MS) (a1 : Int32) (a2 : Int32) (a3 : Int64) (a5 : Int32) (a6 : Int32) : AT z x 12 (wM z τ) rJ (eqA ad) 0 0 0 0 ad 78 [(0, .ref 0), (1, .int a1), (2, .int a2), (3, .long a3), (5, .int a5), (6, .int a6)] [] σ (M_sumOf_J78 k_5 σ a1 a2 a3 a5 a6) := by
  unfold M_sumOf_J78
  refine at_iconst hC ic_0 dX11_sumOf_78 ?_
  exact t_M_sumOf_J79 hC hR k_5 hk_5 σ a1 a2 a3 a5 a6 0
set_option maxRecDepth 100000 in
theorem t_M_sumOf_L5 (hC : CX z ad x cX11_sumOf RX11 12 (some .long)) (hR : x.2.2.1 = rmk 621 0 0) (n : Nat) (σ : MS) (a1 : Int32) (a2 : Int32) (a3 : Int64) (a5 : Int32) : AT z x 12 (wM z τ) rJ (eqA ad) 0 0 0 0 ad 5 [(0, .ref 0), (1, .int a1), (2, .int a2), (3, .long a3), (5, .int a5)] [] σ (M_sumOf_L5 n σ a1 a2 a3 a5) := by
  revert σ a1 a2 a3 a5
  show ∀ (σ : MS) (a1 : Int32) (a2 : Int32) (a3 : Int64) (a5 : Int32), AT z x 12 (wM z τ) rJ (eqA ad) 0 0 0 0 ad 5 [(0, .ref 0), (1, .int a1), (2, .int a2), (3, .long a3), (5, .int a5)] [] σ (M_sumOf_L5_r n σ a1 a2 a3 a5)
  induction n with
  | zero => intro σ a1 a2 a3 a5; exact at_none
  | succ n hk_5 =>
    intro σ a1 a2 a3 a5
    unfold M_sumOf_L5_r
    refine at_iload (j := 4) hC rfl dX11_sumOf_5 ?_
    refine at_aload_n (j := 0) hC rfl rfl dX11_sumOf_7 ?_
    refine gf_X11_126 hC dX11_sumOf_8 ?_
    refine at_icmp_ge (tgt := 255) hC dX11_sumOf_11 rfl (fun _ => ?_) (fun _ => ?_)
    · refine at_lload_n (j := 3) hC rfl rfl dX11_sumOf_255 ?_
      exact at_lret (F := eqA ad) (ra := rJ) hC dX11_sumOf_256 rfl (Nat.le_refl 0) (Nat.le_refl 0) rfl
    · refine at_aload_n (j := 0) hC rfl rfl dX11_sumOf_14 ?_
      refine gf_X11_114 hC dX11_sumOf_15 ?_
      refine at_iload (j := 4) hC rfl dX11_sumOf_18 ?_
      refine at_iald hC 33 dX11_sumOf_20 cl_33 (fun v1 => ?_)
      refine at_istore (lv' := [(6, .int v1), (0, .ref 0), (1, .int a1), (2, .int a2), (3, .long a3), (5, .int a5)]) hC dX11_sumOf_21 (by decide) rfl ?_
      refine at_aload_n (j := 1) hC rfl rfl dX11_sumOf_23 ?_
      refine gf_X11_11 hC dX11_sumOf_24 ?_
      refine at_iload (j := 5) hC rfl dX11_sumOf_27 ?_
      refine at_iald hC 1 dX11_sumOf_29 cl_1 (fun v2 => ?_)
      refine at_if_ne (tgt := 78) hC dX11_sumOf_30 rfl (fun _ => ?_) (fun _ => ?_)
      · refine at_drop (lv' := [(0, .ref 0), (1, .int a1), (2, .int a2), (3, .long a3), (5, .int a5), (6, .int v1)]) [1, 2, 3, 4, 5, 0] rfl ?_
        exact t_M_sumOf_J78 hC hR (M_sumOf_L5_r n) hk_5 σ a1 a2 a3 a5 v1
      · refine at_iload (j := 0) hC rfl dX11_sumOf_33 ?_
        refine at_sipush hC si_10000 dX11_sumOf_35 ?_
        refine at_icmp_eq (tgt := 78) hC dX11_sumOf_38 rfl (fun _ => ?_) (fun _ => ?_)
        · refine at_drop (lv' := [(0, .ref 0), (1, .int a1), (2, .int a2), (3, .long a3), (5, .int a5), (6, .int v1)]) [1, 2, 3, 4, 5, 0] rfl ?_
          exact t_M_sumOf_J78 hC hR (M_sumOf_L5_r n) hk_5 σ a1 a2 a3 a5 v1
        · refine at_iload (j := 0) hC rfl dX11_sumOf_41 ?_
          refine at_callSpI hC hR lk_X11_363 (c_M_yearOf σ v1) dX11_sumOf_43 rfl rfl ⟨by decide, by decide⟩ (Nat.le_of_ble_eq_true rfl) ⟨Nat.le_refl 0, Nat.le_refl 0⟩ (fun r6 _ => ?_)
          refine at_iload_n (j := 3) hC rfl rfl dX11_sumOf_46 ?_
          refine at_icmp_ne (tgt := 78) hC dX11_sumOf_47 rfl (fun _ => ?_) (fun _ => ?_)
          · refine at_drop (lv' := [(0, .ref 0), (1, .int a1), (2, .int a2), (3, .long a3), (5, .int a5), (6, .int v1)]) [1, 2, 3, 4, 5, 0] rfl ?_
            exact t_M_sumOf_J78 hC hR (M_sumOf_L5_r n) hk_5 σ a1 a2 a3 a5 v1
          · refine at_aload_n (j := 1) hC rfl rfl dX11_sumOf_50 ?_
            refine at_iload (j := 5) hC rfl dX11_sumOf_51 ?_
            refine at_iload (j := 0) hC rfl dX11_sumOf_53 ?_
            refine at_iconst hC ic_1 dX11_sumOf_55 ?_
            refine at_isub hC dX11_sumOf_56 ?_
            refine at_callVI hC hR lk_X11_197 (c_M_counted σ a5 (v1 - 1)) dX11_sumOf_57 recX11 rfl rfl ⟨by decide, by decide⟩ (Nat.le_of_ble_eq_true rfl) ⟨Nat.le_refl 0, Nat.le_refl 0⟩ (fun r7 r7s _ => ?_)
            refine at_if_eq (tgt := 78) hC dX11_sumOf_60 rfl (fun _ => ?_) (fun _ => ?_)
            · refine at_drop (lv' := [(0, .ref 0), (1, .int a1), (2, .int a2), (3, .long a3), (5, .int a5), (6, .int v1)]) [1, 2, 3, 4, 5, 0] rfl ?_
              exact t_M_sumOf_J78 hC hR (M_sumOf_L5_r n) hk_5 r7s a1 a2 a3 a5 v1
            · refine at_aload_n (j := 1) hC rfl rfl dX11_sumOf_63 ?_
              refine at_iload (j := 5) hC rfl dX11_sumOf_64 ?_
              refine at_iload (j := 0) hC rfl dX11_sumOf_66 ?_
              refine at_callVI hC hR lk_X11_404 (c_M_leavesWidow r7s a5 v1) dX11_sumOf_68 recX11 rfl rfl ⟨by decide, by decide⟩ (Nat.le_of_ble_eq_true rfl) ⟨Nat.le_refl 0, Nat.le_refl 0⟩ (fun r8 r8s _ => ?_)
              refine at_if_ne (tgt := 78) hC dX11_sumOf_71 rfl (fun _ => ?_) (fun _ => ?_)
              · refine at_drop (lv' := [(0, .ref 0), (1, .int a1), (2, .int a2), (3, .long a3), (5, .int a5), (6, .int v1)]) [1, 2, 3, 4, 5, 0] rfl ?_
                exact t_M_sumOf_J78 hC hR (M_sumOf_L5_r n) hk_5 r8s a1 a2 a3 a5 v1
              · refine at_iconst hC ic_1 dX11_sumOf_74 ?_
                refine at_goto (tgt := 79) hC dX11_sumOf_75 rfl ?_
                refine at_drop (lv' := [(0, .ref 0), (1, .int a1), (2, .int a2), (3, .long a3), (5, .int a5), (6, .int v1)]) [1, 2, 3, 4, 5, 0] rfl ?_
                exact t_M_sumOf_J79 hC hR (M_sumOf_L5_r n) hk_5 r8s a1 a2 a3 a5 v1 1
set_option maxRecDepth 100000 in
theorem c_M_sumOf (σ : MS) (p0 : Int32) (p1 : Int32) : Ct z (wM z τ) rJ eqA yX11_sumOf cX11_sumOf 12 (some .long) 621 0 0 [.ref 0, .int p0, .int p1] σ (M_sumOf σ p0 p1) := by
  refine Ct.of (by decide) (Nat.le_of_ble_eq_true rfl) (fun ad x hC hR _ => ?_)
  show AT z x 12 (wM z τ) rJ (eqA ad) 0 0 0 0 ad 0 [(0, .ref 0), (1, .int p0), (2, .int p1)] [] σ (M_sumOf σ p0 p1)
  unfold M_sumOf
  refine at_lconst hC lc_0 dX11_sumOf_0 ?_
  refine at_lstore_n (lv' := [(3, .long 0), (0, .ref 0), (1, .int p0), (2, .int p1)]) hC rfl dX11_sumOf_1 (by decide) rfl ?_
  refine at_iconst hC ic_0 dX11_sumOf_2 ?_
  refine at_istore (lv' := [(5, .int 0), (3, .long 0), (0, .ref 0), (1, .int p0), (2, .int p1)]) hC dX11_sumOf_3 (by decide) rfl ?_
  refine at_drop (lv' := [(0, .ref 0), (1, .int p0), (2, .int p1), (3, .long 0), (5, .int 0)]) [2, 3, 4, 1, 0] rfl ?_
  exact t_M_sumOf_L5 hC hR 100000 σ p0 p1 0 0
end G
