section G
variable {z : ZZ} {x : XX} {ad : Nat → Nat} {σ : MS}
theorem dX7_hold_0 : decode cX7_hold 0 = .ok (.aload_n 0, 1) := by decide +kernel
theorem dX7_hold_1 : decode cX7_hold 1 = .ok (.getfield 96, 3) := by decide +kernel
theorem dX7_hold_4 : decode cX7_hold 4 = .ok (.sipush 200, 3) := by decide +kernel
theorem dX7_hold_7 : decode cX7_hold 7 = .ok (.if_icmp .ge 20, 3) := by decide +kernel
theorem dX7_hold_10 : decode cX7_hold 10 = .ok (.aload_n 0, 1) := by decide +kernel
theorem dX7_hold_11 : decode cX7_hold 11 = .ok (.getfield 15, 3) := by decide +kernel
theorem dX7_hold_14 : decode cX7_hold 14 = .ok (.aload_n 0, 1) := by decide +kernel
theorem dX7_hold_15 : decode cX7_hold 15 = .ok (.dup, 1) := by decide +kernel
theorem dX7_hold_16 : decode cX7_hold 16 = .ok (.getfield 96, 3) := by decide +kernel
theorem dX7_hold_19 : decode cX7_hold 19 = .ok (.dup_x1, 1) := by decide +kernel
theorem dX7_hold_20 : decode cX7_hold 20 = .ok (.iconst 1, 1) := by decide +kernel
theorem dX7_hold_21 : decode cX7_hold 21 = .ok (.iadd, 1) := by decide +kernel
theorem dX7_hold_22 : decode cX7_hold 22 = .ok (.putfield 96, 3) := by decide +kernel
theorem dX7_hold_25 : decode cX7_hold 25 = .ok (.iload_n 1, 1) := by decide +kernel
theorem dX7_hold_26 : decode cX7_hold 26 = .ok (.iastore, 1) := by decide +kernel
theorem dX7_hold_27 : decode cX7_hold 27 = .ok (.aload_n 0, 1) := by decide +kernel
theorem dX7_hold_28 : decode cX7_hold 28 = .ok (.dup, 1) := by decide +kernel
theorem dX7_hold_29 : decode cX7_hold 29 = .ok (.getfield 27, 3) := by decide +kernel
theorem dX7_hold_32 : decode cX7_hold 32 = .ok (.iconst 1, 1) := by decide +kernel
theorem dX7_hold_33 : decode cX7_hold 33 = .ok (.iadd, 1) := by decide +kernel
theorem dX7_hold_34 : decode cX7_hold 34 = .ok (.putfield 27, 3) := by decide +kernel
theorem dX7_hold_37 : decode cX7_hold 37 = .ok (.return_, 1) := by decide +kernel
set_option maxRecDepth 100000 in
theorem t_Tp_hold_J27 (hC : CX z ad x cX7_hold RX7 2 none) (hR : x.2.2.1 = rmk 1 0 0) (τ : XS) : AT z x 2 (wX z σ) rU (eqA ad) 0 0 0 0 ad 27 [(0, .ref 54)] [] τ (Tp_hold_J27 τ) := by
  unfold Tp_hold_J27
  refine at_aload_n (j := 0) hC rfl rfl dX7_hold_27 ?_
  refine at_dup hC rfl dX7_hold_28 ?_
  refine gf_X7_27 hC dX7_hold_29 ?_
  refine at_iconst hC ic_1 dX7_hold_32 ?_
  refine at_iadd hC dX7_hold_33 ?_
  refine pf_X7_27 hC dX7_hold_34 ?_
  exact at_vret (F := eqA ad) (ra := rU) hC dX7_hold_37 rfl (Nat.le_refl 0) (Nat.le_refl 0) rfl
set_option maxRecDepth 100000 in
theorem c_Tp_hold (τ : XS) (p0 : Int32) : Ct z (wX z σ) rU eqA yX7_hold cX7_hold 2 none 1 0 0 [.ref 54, .int p0] τ (Tp_hold τ p0) := by
  refine Ct.of (by decide) (Nat.le_of_ble_eq_true rfl) (fun ad x hC hR _ => ?_)
  show AT z x 2 (wX z σ) rU (eqA ad) 0 0 0 0 ad 0 [(0, .ref 54), (1, .int p0)] [] τ (Tp_hold τ p0)
  unfold Tp_hold
  refine at_aload_n (j := 0) hC rfl rfl dX7_hold_0 ?_
  refine gf_X7_96 hC dX7_hold_1 ?_
  refine at_sipush hC si_200 dX7_hold_4 ?_
  refine at_icmp_ge (tgt := 27) hC dX7_hold_7 rfl (fun _ => ?_) (fun _ => ?_)
  · refine at_drop (lv' := [(0, .ref 54)]) [0] rfl ?_
    exact t_Tp_hold_J27 hC hR τ
  · refine at_aload_n (j := 0) hC rfl rfl dX7_hold_10 ?_
    refine gf_X7_15 hC dX7_hold_11 ?_
    refine at_aload_n (j := 0) hC rfl rfl dX7_hold_14 ?_
    refine at_dup hC rfl dX7_hold_15 ?_
    refine gf_X7_96 hC dX7_hold_16 ?_
    refine at_dup_x1 hC rfl rfl dX7_hold_19 ?_
    refine at_iconst hC ic_1 dX7_hold_20 ?_
    refine at_iadd hC dX7_hold_21 ?_
    refine pf_X7_96 hC dX7_hold_22 ?_
    refine at_iload_n (j := 1) hC rfl rfl dX7_hold_25 ?_
    refine at_iast hC 56 dX7_hold_26 cl_56 st_56 ?_
    refine at_drop (lv' := [(0, .ref 54)]) [0] rfl ?_
    exact t_Tp_hold_J27 hC hR (xA (xI τ 704 ((τ.1 704) + 1)) 703 (upd ((xI τ 704 ((τ.1 704) + 1)).2.1 703) (τ.1 704).toNatClampNeg p0))
theorem dX7_isDigit_0 : decode cX7_isDigit 0 = .ok (.iload_n 0, 1) := by decide +kernel
theorem dX7_isDigit_1 : decode cX7_isDigit 1 = .ok (.bipush 48, 2) := by decide +kernel
theorem dX7_isDigit_3 : decode cX7_isDigit 3 = .ok (.if_icmp .lt 13, 3) := by decide +kernel
theorem dX7_isDigit_6 : decode cX7_isDigit 6 = .ok (.iload_n 0, 1) := by decide +kernel
theorem dX7_isDigit_7 : decode cX7_isDigit 7 = .ok (.bipush 57, 2) := by decide +kernel
theorem dX7_isDigit_9 : decode cX7_isDigit 9 = .ok (.if_icmp .gt 7, 3) := by decide +kernel
theorem dX7_isDigit_12 : decode cX7_isDigit 12 = .ok (.iconst 1, 1) := by decide +kernel
theorem dX7_isDigit_13 : decode cX7_isDigit 13 = .ok (.goto 4, 3) := by decide +kernel
theorem dX7_isDigit_16 : decode cX7_isDigit 16 = .ok (.iconst 0, 1) := by decide +kernel
theorem dX7_isDigit_17 : decode cX7_isDigit 17 = .ok (.ireturn, 1) := by decide +kernel
set_option maxRecDepth 100000 in
theorem c_Tp_isDigit (τ : XS) (p0 : Int32) : Ct z (wX z σ) rI eqA yX7_isDigit cX7_isDigit 1 (some .boolean) 1 0 0 [.int p0] τ ((Tp_isDigit τ p0).map fun r => (r, τ)) := by
  refine Ct.of (by decide) (Nat.le_of_ble_eq_true rfl) (fun ad x hC hR _ => ?_)
  show AT z x 1 (wX z σ) rI (eqA ad) 0 0 0 0 ad 0 [(0, .int p0)] [] τ ((Tp_isDigit τ p0).map fun r => (r, τ))
  unfold Tp_isDigit
  refine at_iload_n (j := 0) hC rfl rfl dX7_isDigit_0 ?_
  refine at_bipush hC bi_48 dX7_isDigit_1 ?_
  refine ap_icmp_lt (tgt := 16) hC dX7_isDigit_3 rfl (fun _ => ?_) (fun _ => ?_)
  · refine at_iconst hC ic_0 dX7_isDigit_16 ?_
    exact at_zret (F := eqA ad) (ra := rI) hC nb0 dX7_isDigit_17 rfl (Nat.le_refl 0) (Nat.le_refl 0) rfl
  · refine at_iload_n (j := 0) hC rfl rfl dX7_isDigit_6 ?_
    refine at_bipush hC bi_57 dX7_isDigit_7 ?_
    refine ap_icmp_gt (tgt := 16) hC dX7_isDigit_9 rfl (fun _ => ?_) (fun _ => ?_)
    · refine at_iconst hC ic_0 dX7_isDigit_16 ?_
      exact at_zret (F := eqA ad) (ra := rI) hC nb0 dX7_isDigit_17 rfl (Nat.le_refl 0) (Nat.le_refl 0) rfl
    · refine at_iconst hC ic_1 dX7_isDigit_12 ?_
      refine at_goto (tgt := 17) hC dX7_isDigit_13 rfl ?_
      exact at_zret (F := eqA ad) (ra := rI) hC nb1 dX7_isDigit_17 rfl (Nat.le_refl 0) (Nat.le_refl 0) rfl
theorem dX7_readNumber_0 : decode cX7_readNumber 0 = .ok (.aload_n 0, 1) := by decide +kernel
theorem dX7_readNumber_1 : decode cX7_readNumber 1 = .ok (.invokevirtual 30, 3) := by decide +kernel
theorem dX7_readNumber_4 : decode cX7_readNumber 4 = .ok (.bipush 48, 2) := by decide +kernel
theorem dX7_readNumber_6 : decode cX7_readNumber 6 = .ok (.isub, 1) := by decide +kernel
theorem dX7_readNumber_7 : decode cX7_readNumber 7 = .ok (.istore_n 1, 1) := by decide +kernel
theorem dX7_readNumber_8 : decode cX7_readNumber 8 = .ok (.aload_n 0, 1) := by decide +kernel
theorem dX7_readNumber_9 : decode cX7_readNumber 9 = .ok (.dup, 1) := by decide +kernel
theorem dX7_readNumber_10 : decode cX7_readNumber 10 = .ok (.getfield 27, 3) := by decide +kernel
theorem dX7_readNumber_13 : decode cX7_readNumber 13 = .ok (.iconst 1, 1) := by decide +kernel
theorem dX7_readNumber_14 : decode cX7_readNumber 14 = .ok (.iadd, 1) := by decide +kernel
theorem dX7_readNumber_15 : decode cX7_readNumber 15 = .ok (.putfield 27, 3) := by decide +kernel
theorem dX7_readNumber_18 : decode cX7_readNumber 18 = .ok (.iload_n 1, 1) := by decide +kernel
theorem dX7_readNumber_19 : decode cX7_readNumber 19 = .ok (.ifCond .ne 5, 3) := by decide +kernel
theorem dX7_readNumber_22 : decode cX7_readNumber 22 = .ok (.iconst 0, 1) := by decide +kernel
theorem dX7_readNumber_23 : decode cX7_readNumber 23 = .ok (.ireturn, 1) := by decide +kernel
theorem dX7_readNumber_24 : decode cX7_readNumber 24 = .ok (.iconst 1, 1) := by decide +kernel
theorem dX7_readNumber_25 : decode cX7_readNumber 25 = .ok (.istore_n 2, 1) := by decide +kernel
theorem dX7_readNumber_26 : decode cX7_readNumber 26 = .ok (.iload_n 2, 1) := by decide +kernel
theorem dX7_readNumber_27 : decode cX7_readNumber 27 = .ok (.iconst 4, 1) := by decide +kernel
theorem dX7_readNumber_28 : decode cX7_readNumber 28 = .ok (.if_icmp .ge 42, 3) := by decide +kernel
theorem dX7_readNumber_31 : decode cX7_readNumber 31 = .ok (.aload_n 0, 1) := by decide +kernel
theorem dX7_readNumber_32 : decode cX7_readNumber 32 = .ok (.invokevirtual 30, 3) := by decide +kernel
theorem dX7_readNumber_35 : decode cX7_readNumber 35 = .ok (.invokestatic 112, 3) := by decide +kernel
theorem dX7_readNumber_38 : decode cX7_readNumber 38 = .ok (.ifCond .eq 32, 3) := by decide +kernel
theorem dX7_readNumber_41 : decode cX7_readNumber 41 = .ok (.bipush 10, 2) := by decide +kernel
theorem dX7_readNumber_43 : decode cX7_readNumber 43 = .ok (.iload_n 1, 1) := by decide +kernel
theorem dX7_readNumber_44 : decode cX7_readNumber 44 = .ok (.imul, 1) := by decide +kernel
theorem dX7_readNumber_45 : decode cX7_readNumber 45 = .ok (.aload_n 0, 1) := by decide +kernel
theorem dX7_readNumber_46 : decode cX7_readNumber 46 = .ok (.invokevirtual 30, 3) := by decide +kernel
theorem dX7_readNumber_49 : decode cX7_readNumber 49 = .ok (.iadd, 1) := by decide +kernel
theorem dX7_readNumber_50 : decode cX7_readNumber 50 = .ok (.bipush 48, 2) := by decide +kernel
theorem dX7_readNumber_52 : decode cX7_readNumber 52 = .ok (.isub, 1) := by decide +kernel
theorem dX7_readNumber_53 : decode cX7_readNumber 53 = .ok (.istore_n 1, 1) := by decide +kernel
theorem dX7_readNumber_54 : decode cX7_readNumber 54 = .ok (.aload_n 0, 1) := by decide +kernel
theorem dX7_readNumber_55 : decode cX7_readNumber 55 = .ok (.dup, 1) := by decide +kernel
theorem dX7_readNumber_56 : decode cX7_readNumber 56 = .ok (.getfield 27, 3) := by decide +kernel
theorem dX7_readNumber_59 : decode cX7_readNumber 59 = .ok (.iconst 1, 1) := by decide +kernel
theorem dX7_readNumber_60 : decode cX7_readNumber 60 = .ok (.iadd, 1) := by decide +kernel
theorem dX7_readNumber_61 : decode cX7_readNumber 61 = .ok (.putfield 27, 3) := by decide +kernel
theorem dX7_readNumber_64 : decode cX7_readNumber 64 = .ok (.iinc 2 1, 3) := by decide +kernel
theorem dX7_readNumber_67 : decode cX7_readNumber 67 = .ok (.goto (-41), 3) := by decide +kernel
theorem dX7_readNumber_70 : decode cX7_readNumber 70 = .ok (.iload_n 1, 1) := by decide +kernel
theorem dX7_readNumber_71 : decode cX7_readNumber 71 = .ok (.ireturn, 1) := by decide +kernel
set_option maxRecDepth 100000 in
theorem t_Tp_readNumber_L26 (hC : CX z ad x cX7_readNumber RX7 3 (some .int)) (hR : x.2.2.1 = rmk 2 0 0) (n : Nat) (τ : XS) (a1 : Int32) (a2 : Int32) : AT z x 3 (wX z σ) rI (eqA ad) 0 0 0 0 ad 26 [(0, .ref 54), (1, .int a1), (2, .int a2)] [] τ (Tp_readNumber_L26 n τ a1 a2) := by
  revert τ a1 a2
  show ∀ (τ : XS) (a1 : Int32) (a2 : Int32), AT z x 3 (wX z σ) rI (eqA ad) 0 0 0 0 ad 26 [(0, .ref 54), (1, .int a1), (2, .int a2)] [] τ (Tp_readNumber_L26_r n τ a1 a2)
  induction n with
  | zero => intro τ a1 a2; exact at_none
  | succ n hk_26 =>
    intro τ a1 a2
    unfold Tp_readNumber_L26_r
    refine at_iload_n (j := 2) hC rfl rfl dX7_readNumber_26 ?_
    refine at_iconst hC ic_4 dX7_readNumber_27 ?_
    refine at_icmp_ge (tgt := 70) hC dX7_readNumber_28 rfl (fun _ => ?_) (fun _ => ?_)
    · refine at_iload_n (j := 1) hC rfl rfl dX7_readNumber_70 ?_
      exact at_iret (F := eqA ad) (ra := rI) hC dX7_readNumber_71 rfl (Nat.le_refl 0) (Nat.le_refl 0) rfl
    · refine at_aload_n (j := 0) hC rfl rfl dX7_readNumber_31 ?_
      refine at_callVpI hC hR lk_X7_30 (c_Tp_next τ) dX7_readNumber_32 recX7 rfl rfl ⟨by decide, by decide⟩ (Nat.le_of_ble_eq_true rfl) ⟨Nat.le_refl 0, Nat.le_refl 0⟩ (fun r2 _ => ?_)
      refine at_callSpI hC hR lk_X7_112 (c_Tp_isDigit τ r2) dX7_readNumber_35 rfl rfl ⟨by decide, by decide⟩ (Nat.le_of_ble_eq_true rfl) ⟨Nat.le_refl 0, Nat.le_refl 0⟩ (fun r3 _ => ?_)
      refine at_if_eq (tgt := 70) hC dX7_readNumber_38 rfl (fun _ => ?_) (fun _ => ?_)
      · refine at_iload_n (j := 1) hC rfl rfl dX7_readNumber_70 ?_
        exact at_iret (F := eqA ad) (ra := rI) hC dX7_readNumber_71 rfl (Nat.le_refl 0) (Nat.le_refl 0) rfl
      · refine at_bipush hC bi_10 dX7_readNumber_41 ?_
        refine at_iload_n (j := 1) hC rfl rfl dX7_readNumber_43 ?_
        refine at_imul hC dX7_readNumber_44 ?_
        refine at_aload_n (j := 0) hC rfl rfl dX7_readNumber_45 ?_
        refine at_callVpI hC hR lk_X7_30 (c_Tp_next τ) dX7_readNumber_46 recX7 rfl rfl ⟨by decide, by decide⟩ (Nat.le_of_ble_eq_true rfl) ⟨Nat.le_refl 0, Nat.le_refl 0⟩ (fun r4 _ => ?_)
        refine at_iadd hC dX7_readNumber_49 ?_
        refine at_bipush hC bi_48 dX7_readNumber_50 ?_
        refine at_isub hC dX7_readNumber_52 ?_
        refine at_istore_n (lv' := [(1, .int (((10 * a1) + r4) - 48)), (0, .ref 54), (2, .int a2)]) hC rfl dX7_readNumber_53 (by decide) rfl ?_
        refine at_aload_n (j := 1) hC rfl rfl dX7_readNumber_54 ?_
        refine at_dup hC rfl dX7_readNumber_55 ?_
        refine gf_X7_27 hC dX7_readNumber_56 ?_
        refine at_iconst hC ic_1 dX7_readNumber_59 ?_
        refine at_iadd hC dX7_readNumber_60 ?_
        refine pf_X7_27 hC dX7_readNumber_61 ?_
        refine at_iinc (j := 2) (v := a2 + 1) (lv' := [(2, .int (a2 + 1)), (1, .int (((10 * a1) + r4) - 48)), (0, .ref 54)]) hC dX7_readNumber_64 rfl rfl (by decide) rfl ?_
        refine at_goto (tgt := 26) hC dX7_readNumber_67 rfl ?_
        refine at_drop (lv' := [(0, .ref 54), (1, .int (((10 * a1) + r4) - 48)), (2, .int (a2 + 1))]) [2, 1, 0] rfl ?_
        exact hk_26 (xI τ 702 ((τ.1 702) + 1)) (((10 * a1) + r4) - 48) (a2 + 1)
set_option maxRecDepth 100000 in
theorem c_Tp_readNumber (τ : XS) : Ct z (wX z σ) rI eqA yX7_readNumber cX7_readNumber 3 (some .int) 2 0 0 [.ref 54] τ (Tp_readNumber τ) := by
  refine Ct.of (by decide) (Nat.le_of_ble_eq_true rfl) (fun ad x hC hR _ => ?_)
  show AT z x 3 (wX z σ) rI (eqA ad) 0 0 0 0 ad 0 [(0, .ref 54)] [] τ (Tp_readNumber τ)
  unfold Tp_readNumber
  refine at_aload_n (j := 0) hC rfl rfl dX7_readNumber_0 ?_
  refine at_callVpI hC hR lk_X7_30 (c_Tp_next τ) dX7_readNumber_1 recX7 rfl rfl ⟨by decide, by decide⟩ (Nat.le_of_ble_eq_true rfl) ⟨Nat.le_refl 0, Nat.le_refl 0⟩ (fun r1 _ => ?_)
  refine at_bipush hC bi_48 dX7_readNumber_4 ?_
  refine at_isub hC dX7_readNumber_6 ?_
  refine at_istore_n (lv' := [(1, .int (r1 - 48)), (0, .ref 54)]) hC rfl dX7_readNumber_7 (by decide) rfl ?_
  refine at_aload_n (j := 1) hC rfl rfl dX7_readNumber_8 ?_
  refine at_dup hC rfl dX7_readNumber_9 ?_
  refine gf_X7_27 hC dX7_readNumber_10 ?_
  refine at_iconst hC ic_1 dX7_readNumber_13 ?_
  refine at_iadd hC dX7_readNumber_14 ?_
  refine pf_X7_27 hC dX7_readNumber_15 ?_
  refine at_iload_n (j := 0) hC rfl rfl dX7_readNumber_18 ?_
  refine at_if_ne (tgt := 24) hC dX7_readNumber_19 rfl (fun _ => ?_) (fun _ => ?_)
  · refine at_iconst hC ic_1 dX7_readNumber_24 ?_
    refine at_istore_n (lv' := [(2, .int 1), (1, .int (r1 - 48)), (0, .ref 54)]) hC rfl dX7_readNumber_25 (by decide) rfl ?_
    refine at_drop (lv' := [(0, .ref 54), (1, .int (r1 - 48)), (2, .int 1)]) [2, 1, 0] rfl ?_
    exact t_Tp_readNumber_L26 hC hR 100000 (xI τ 702 ((τ.1 702) + 1)) (r1 - 48) 1
  · refine at_iconst hC ic_0 dX7_readNumber_22 ?_
    exact at_iret (F := eqA ad) (ra := rI) hC dX7_readNumber_23 rfl (Nat.le_refl 0) (Nat.le_refl 0) rfl
theorem dX7_readOne_0 : decode cX7_readOne 0 = .ok (.aload_n 0, 1) := by decide +kernel
theorem dX7_readOne_1 : decode cX7_readOne 1 = .ok (.invokevirtual 30, 3) := by decide +kernel
theorem dX7_readOne_4 : decode cX7_readOne 4 = .ok (.invokestatic 112, 3) := by decide +kernel
theorem dX7_readOne_7 : decode cX7_readOne 7 = .ok (.ifCond .eq 13, 3) := by decide +kernel
theorem dX7_readOne_10 : decode cX7_readOne 10 = .ok (.aload_n 1, 1) := by decide +kernel
theorem dX7_readOne_11 : decode cX7_readOne 11 = .ok (.aload_n 0, 1) := by decide +kernel
theorem dX7_readOne_12 : decode cX7_readOne 12 = .ok (.invokevirtual 116, 3) := by decide +kernel
theorem dX7_readOne_15 : decode cX7_readOne 15 = .ok (.invokevirtual 89, 3) := by decide +kernel
theorem dX7_readOne_18 : decode cX7_readOne 18 = .ok (.iconst 1, 1) := by decide +kernel
theorem dX7_readOne_19 : decode cX7_readOne 19 = .ok (.ireturn, 1) := by decide +kernel
theorem dX7_readOne_20 : decode cX7_readOne 20 = .ok (.aload_n 0, 1) := by decide +kernel
theorem dX7_readOne_21 : decode cX7_readOne 21 = .ok (.ldc 119, 2) := by decide +kernel
theorem dX7_readOne_23 : decode cX7_readOne 23 = .ok (.invokevirtual 62, 3) := by decide +kernel
theorem dX7_readOne_26 : decode cX7_readOne 26 = .ok (.istore_n 2, 1) := by decide +kernel
theorem dX7_readOne_27 : decode cX7_readOne 27 = .ok (.iload_n 2, 1) := by decide +kernel
theorem dX7_readOne_28 : decode cX7_readOne 28 = .ok (.ifCond .ge 5, 3) := by decide +kernel
theorem dX7_readOne_31 : decode cX7_readOne 31 = .ok (.iconst 0, 1) := by decide +kernel
theorem dX7_readOne_32 : decode cX7_readOne 32 = .ok (.ireturn, 1) := by decide +kernel
theorem dX7_readOne_33 : decode cX7_readOne 33 = .ok (.aload_n 1, 1) := by decide +kernel
theorem dX7_readOne_34 : decode cX7_readOne 34 = .ok (.iconst (-1), 1) := by decide +kernel
theorem dX7_readOne_35 : decode cX7_readOne 35 = .ok (.iload_n 2, 1) := by decide +kernel
theorem dX7_readOne_36 : decode cX7_readOne 36 = .ok (.isub, 1) := by decide +kernel
theorem dX7_readOne_37 : decode cX7_readOne 37 = .ok (.invokevirtual 89, 3) := by decide +kernel
theorem dX7_readOne_40 : decode cX7_readOne 40 = .ok (.iconst 1, 1) := by decide +kernel
theorem dX7_readOne_41 : decode cX7_readOne 41 = .ok (.ireturn, 1) := by decide +kernel
set_option maxRecDepth 100000 in
theorem c_Tp_readOne (τ : XS) (p0 : Option Nat) : Ct z (wX z σ) rI eqA yX7_readOne cX7_readOne 3 (some .boolean) 7 0 0 [.ref 54, vr p0] τ (Tp_readOne τ p0) := by
  refine Ct.of (by decide) (by cases p0 <;> exact Nat.le_of_ble_eq_true rfl) (fun ad x hC hR _ => ?_)
  rw [show lv_args 0 [.ref 54, vr p0] = [(0, .ref 54), (1, vr p0)] from by cases p0 <;> rfl]
  show AT z x 3 (wX z σ) rI (eqA ad) 0 0 0 0 ad 0 [(0, .ref 54), (1, vr p0)] [] τ (Tp_readOne τ p0)
  unfold Tp_readOne
  refine at_aload_n (j := 0) hC rfl rfl dX7_readOne_0 ?_
  refine at_callVpI hC hR lk_X7_30 (c_Tp_next τ) dX7_readOne_1 recX7 rfl rfl ⟨by decide, by decide⟩ (Nat.le_of_ble_eq_true rfl) ⟨Nat.le_refl 0, Nat.le_refl 0⟩ (fun r1 _ => ?_)
  refine at_callSpI hC hR lk_X7_112 (c_Tp_isDigit τ r1) dX7_readOne_4 rfl rfl ⟨by decide, by decide⟩ (Nat.le_of_ble_eq_true rfl) ⟨Nat.le_refl 0, Nat.le_refl 0⟩ (fun r2 _ => ?_)
  refine at_if_eq (tgt := 20) hC dX7_readOne_7 rfl (fun _ => ?_) (fun _ => ?_)
  · refine at_aload_n (j := 0) hC rfl rfl dX7_readOne_20 ?_
    refine at_ldcS (m := 1000003) hC 3 rfl rfl dX7_readOne_21 ?_
    refine at_callVI hC hR lk_X7_62 (c_Tp_readWord τ 1000003) dX7_readOne_23 recX7 rfl rfl ⟨by decide, by decide⟩ (Nat.le_of_ble_eq_true rfl) ⟨Nat.le_refl 0, Nat.le_refl 0⟩ (fun r3 r3s _ => ?_)
    refine at_istore_n (lv' := [(2, .int r3), (0, .ref 54), (1, vr p0)]) hC rfl dX7_readOne_26 (by decide) (by cases p0 <;> rfl) ?_
    refine at_iload_n (j := 0) hC rfl rfl dX7_readOne_27 ?_
    refine at_if_ge (tgt := 33) hC dX7_readOne_28 rfl (fun _ => ?_) (fun _ => ?_)
    · refine at_aload_nV (j := 2) hC rfl rfl dX7_readOne_33 ?_
      refine at_iconst hC ic_m1 dX7_readOne_34 ?_
      refine at_iload_n (j := 0) hC rfl rfl dX7_readOne_35 ?_
      refine at_isub hC dX7_readOne_36 ?_
      refine at_oA (pre := [.int ((-1) - r3)]) rfl (fun a_1 _ hg1 => ?_)
      show AT z x 3 (wX z σ) rI (eqA ad) 0 0 0 0 ad 37 [(2, .int r3), (0, .ref 54), (1, vr p0)] [.int ((-1) - r3), .ref (80 + 7 * a_1)] r3s _
      refine at_callVU hC hR lk_X7_89 (c_Ac_emit r3s a_1 ((-1) - r3)) dX7_readOne_37 ⟨0, _, _, rfl, rfl, cla hg1⟩ rfl rfl ⟨by decide, by decide⟩ (Nat.le_of_ble_eq_true rfl) ⟨Nat.le_refl 0, Nat.le_refl 0⟩ (fun r4 r4s _ => ?_)
      refine at_iconst hC ic_1 dX7_readOne_40 ?_
      exact at_zret (F := eqA ad) (ra := rI) hC nb1 dX7_readOne_41 rfl (Nat.le_refl 0) (Nat.le_refl 0) rfl
    · refine at_iconst hC ic_0 dX7_readOne_31 ?_
      exact at_zret (F := eqA ad) (ra := rI) hC nb0 dX7_readOne_32 rfl (Nat.le_refl 0) (Nat.le_refl 0) rfl
  · refine at_aload_nV (j := 1) hC rfl rfl dX7_readOne_10 ?_
    refine at_aload_n (j := 0) hC rfl rfl dX7_readOne_11 ?_
    refine at_callVI hC hR lk_X7_116 (c_Tp_readNumber τ) dX7_readOne_12 recX7 rfl rfl ⟨by decide, by decide⟩ (by cases p0 <;> exact Nat.le_of_ble_eq_true rfl) ⟨Nat.le_refl 0, Nat.le_refl 0⟩ (fun r5 r5s _ => ?_)
    refine at_oA (pre := [.int r5]) rfl (fun a_2 _ hg2 => ?_)
    show AT z x 3 (wX z σ) rI (eqA ad) 0 0 0 0 ad 15 [(0, .ref 54), (1, vr p0)] [.int r5, .ref (80 + 7 * a_2)] r5s _
    refine at_callVU hC hR lk_X7_89 (c_Ac_emit r5s a_2 r5) dX7_readOne_15 ⟨0, _, _, rfl, rfl, cla hg2⟩ rfl rfl ⟨by decide, by decide⟩ (Nat.le_of_ble_eq_true rfl) ⟨Nat.le_refl 0, Nat.le_refl 0⟩ (fun r6 r6s _ => ?_)
    refine at_iconst hC ic_1 dX7_readOne_18 ?_
    exact at_zret (F := eqA ad) (ra := rI) hC nb1 dX7_readOne_19 rfl (Nat.le_refl 0) (Nat.le_refl 0) rfl
theorem dX7_strength_0 : decode cX7_strength 0 = .ok (.iload_n 0, 1) := by decide +kernel
theorem dX7_strength_1 : decode cX7_strength 1 = .ok (.bipush 40, 2) := by decide +kernel
theorem dX7_strength_3 : decode cX7_strength 3 = .ok (.if_icmp .ne 5, 3) := by decide +kernel
theorem dX7_strength_6 : decode cX7_strength 6 = .ok (.iconst 0, 1) := by decide +kernel
theorem dX7_strength_7 : decode cX7_strength 7 = .ok (.ireturn, 1) := by decide +kernel
theorem dX7_strength_8 : decode cX7_strength 8 = .ok (.iload_n 0, 1) := by decide +kernel
theorem dX7_strength_9 : decode cX7_strength 9 = .ok (.bipush 42, 2) := by decide +kernel
theorem dX7_strength_11 : decode cX7_strength 11 = .ok (.if_icmp .ne 7, 3) := by decide +kernel
theorem dX7_strength_14 : decode cX7_strength 14 = .ok (.iconst 2, 1) := by decide +kernel
theorem dX7_strength_15 : decode cX7_strength 15 = .ok (.goto 4, 3) := by decide +kernel
theorem dX7_strength_18 : decode cX7_strength 18 = .ok (.iconst 1, 1) := by decide +kernel
theorem dX7_strength_19 : decode cX7_strength 19 = .ok (.ireturn, 1) := by decide +kernel
set_option maxRecDepth 100000 in
theorem c_Tp_strength (τ : XS) (p0 : Int32) : Ct z (wX z σ) rI eqA yX7_strength cX7_strength 1 (some .int) 1 0 0 [.int p0] τ ((Tp_strength τ p0).map fun r => (r, τ)) := by
  refine Ct.of (by decide) (Nat.le_of_ble_eq_true rfl) (fun ad x hC hR _ => ?_)
  show AT z x 1 (wX z σ) rI (eqA ad) 0 0 0 0 ad 0 [(0, .int p0)] [] τ ((Tp_strength τ p0).map fun r => (r, τ))
  unfold Tp_strength
  refine at_iload_n (j := 0) hC rfl rfl dX7_strength_0 ?_
  refine at_bipush hC bi_40 dX7_strength_1 ?_
  refine ap_icmp_ne (tgt := 8) hC dX7_strength_3 rfl (fun _ => ?_) (fun _ => ?_)
  · refine at_iload_n (j := 0) hC rfl rfl dX7_strength_8 ?_
    refine at_bipush hC bi_42 dX7_strength_9 ?_
    refine ap_icmp_ne (tgt := 18) hC dX7_strength_11 rfl (fun _ => ?_) (fun _ => ?_)
    · refine at_iconst hC ic_1 dX7_strength_18 ?_
      exact at_iret (F := eqA ad) (ra := rI) hC dX7_strength_19 rfl (Nat.le_refl 0) (Nat.le_refl 0) rfl
    · refine at_iconst hC ic_2 dX7_strength_14 ?_
      refine at_goto (tgt := 19) hC dX7_strength_15 rfl ?_
      exact at_iret (F := eqA ad) (ra := rI) hC dX7_strength_19 rfl (Nat.le_refl 0) (Nat.le_refl 0) rfl
  · refine at_iconst hC ic_0 dX7_strength_6 ?_
    exact at_iret (F := eqA ad) (ra := rI) hC dX7_strength_7 rfl (Nat.le_refl 0) (Nat.le_refl 0) rfl
theorem dX7_release_0 : decode cX7_release 0 = .ok (.aload_n 0, 1) := by decide +kernel
theorem dX7_release_1 : decode cX7_release 1 = .ok (.getfield 96, 3) := by decide +kernel
theorem dX7_release_4 : decode cX7_release 4 = .ok (.ifCond .le 74, 3) := by decide +kernel
theorem dX7_release_7 : decode cX7_release 7 = .ok (.aload_n 0, 1) := by decide +kernel
theorem dX7_release_8 : decode cX7_release 8 = .ok (.getfield 15, 3) := by decide +kernel
theorem dX7_release_11 : decode cX7_release 11 = .ok (.aload_n 0, 1) := by decide +kernel
theorem dX7_release_12 : decode cX7_release 12 = .ok (.getfield 96, 3) := by decide +kernel
theorem dX7_release_15 : decode cX7_release 15 = .ok (.iconst 1, 1) := by decide +kernel
theorem dX7_release_16 : decode cX7_release 16 = .ok (.isub, 1) := by decide +kernel
theorem dX7_release_17 : decode cX7_release 17 = .ok (.iaload, 1) := by decide +kernel
theorem dX7_release_18 : decode cX7_release 18 = .ok (.invokestatic 109, 3) := by decide +kernel
theorem dX7_release_21 : decode cX7_release 21 = .ok (.iload_n 2, 1) := by decide +kernel
theorem dX7_release_22 : decode cX7_release 22 = .ok (.if_icmp .lt 56, 3) := by decide +kernel
theorem dX7_release_25 : decode cX7_release 25 = .ok (.aload_n 0, 1) := by decide +kernel
theorem dX7_release_26 : decode cX7_release 26 = .ok (.getfield 15, 3) := by decide +kernel
theorem dX7_release_29 : decode cX7_release 29 = .ok (.aload_n 0, 1) := by decide +kernel
theorem dX7_release_30 : decode cX7_release 30 = .ok (.getfield 96, 3) := by decide +kernel
theorem dX7_release_33 : decode cX7_release 33 = .ok (.iconst 1, 1) := by decide +kernel
theorem dX7_release_34 : decode cX7_release 34 = .ok (.isub, 1) := by decide +kernel
theorem dX7_release_35 : decode cX7_release 35 = .ok (.iaload, 1) := by decide +kernel
theorem dX7_release_36 : decode cX7_release 36 = .ok (.istore_n 3, 1) := by decide +kernel
theorem dX7_release_37 : decode cX7_release 37 = .ok (.aload_n 1, 1) := by decide +kernel
theorem dX7_release_38 : decode cX7_release 38 = .ok (.iload_n 3, 1) := by decide +kernel
theorem dX7_release_39 : decode cX7_release 39 = .ok (.bipush 43, 2) := by decide +kernel
theorem dX7_release_41 : decode cX7_release 41 = .ok (.if_icmp .ne 8, 3) := by decide +kernel
theorem dX7_release_44 : decode cX7_release 44 = .ok (.bipush (-11), 2) := by decide +kernel
theorem dX7_release_46 : decode cX7_release 46 = .ok (.goto 16, 3) := by decide +kernel
theorem dX7_release_49 : decode cX7_release 49 = .ok (.iload_n 3, 1) := by decide +kernel
theorem dX7_release_50 : decode cX7_release 50 = .ok (.bipush 45, 2) := by decide +kernel
theorem dX7_release_52 : decode cX7_release 52 = .ok (.if_icmp .ne 8, 3) := by decide +kernel
theorem dX7_release_55 : decode cX7_release 55 = .ok (.bipush (-12), 2) := by decide +kernel
theorem dX7_release_57 : decode cX7_release 57 = .ok (.goto 5, 3) := by decide +kernel
theorem dX7_release_60 : decode cX7_release 60 = .ok (.bipush (-13), 2) := by decide +kernel
theorem dX7_release_62 : decode cX7_release 62 = .ok (.invokevirtual 89, 3) := by decide +kernel
theorem dX7_release_65 : decode cX7_release 65 = .ok (.aload_n 0, 1) := by decide +kernel
theorem dX7_release_66 : decode cX7_release 66 = .ok (.dup, 1) := by decide +kernel
theorem dX7_release_67 : decode cX7_release 67 = .ok (.getfield 96, 3) := by decide +kernel
theorem dX7_release_70 : decode cX7_release 70 = .ok (.iconst 1, 1) := by decide +kernel
theorem dX7_release_71 : decode cX7_release 71 = .ok (.isub, 1) := by decide +kernel
theorem dX7_release_72 : decode cX7_release 72 = .ok (.putfield 96, 3) := by decide +kernel
theorem dX7_release_75 : decode cX7_release 75 = .ok (.goto (-75), 3) := by decide +kernel
theorem dX7_release_78 : decode cX7_release 78 = .ok (.return_, 1) := by decide +kernel
set_option maxRecDepth 100000 in
theorem t_Tp_release_J62 (hC : CX z ad x cX7_release RX7 4 none) (hR : x.2.2.1 = rmk 2 0 0) (k_0 : XS → Option Nat → Int32 → Option (Unit × XS)) (hk_0 : ∀ (τ : XS) (a1 : Option Nat) (a2 : Int32), AT z x 4 (wX z σ) rU (eqA ad) 0 0 0 0 ad 0 [(0, .ref 54), (1, vr a1), (2, .int a2)] [] τ (k_0 τ a1 a2)) (τ : XS) (a1 : Option Nat) (a2 : Int32) (s0 : Int32) (s1 : Option Nat) : AT z x 4 (wX z σ) rU (eqA ad) 0 0 0 0 ad 62 [(0, .ref 54), (1, vr a1), (2, .int a2)] [.int s0, vr s1] τ (Tp_release_J62 k_0 τ a1 a2 s0 s1) := by
  unfold Tp_release_J62
  refine at_oA (pre := [.int s0]) rfl (fun a_1 _ hg1 => ?_)
  show AT z x 4 (wX z σ) rU (eqA ad) 0 0 0 0 ad 62 [(0, .ref 54), (1, vr a1), (2, .int a2)] [.int s0, .ref (80 + 7 * a_1)] τ _
  refine at_callVU hC hR lk_X7_89 (c_Ac_emit τ a_1 s0) dX7_release_62 ⟨0, _, _, rfl, rfl, cla hg1⟩ rfl rfl ⟨by decide, by decide⟩ (Nat.le_of_ble_eq_true rfl) ⟨Nat.le_refl 0, Nat.le_refl 0⟩ (fun r4 r4s _ => ?_)
  refine at_aload_n (j := 0) hC rfl rfl dX7_release_65 ?_
  refine at_dup hC rfl dX7_release_66 ?_
  refine gf_X7_96 hC dX7_release_67 ?_
  refine at_iconst hC ic_1 dX7_release_70 ?_
  refine at_isub hC dX7_release_71 ?_
  refine pf_X7_96 hC dX7_release_72 ?_
  refine at_goto (tgt := 0) hC dX7_release_75 rfl ?_
  exact hk_0 (xI r4s 704 ((r4s.1 704) - 1)) a1 a2
set_option maxRecDepth 100000 in
theorem t_Tp_release_L0 (hC : CX z ad x cX7_release RX7 4 none) (hR : x.2.2.1 = rmk 2 0 0) (n : Nat) (τ : XS) (a1 : Option Nat) (a2 : Int32) : AT z x 4 (wX z σ) rU (eqA ad) 0 0 0 0 ad 0 [(0, .ref 54), (1, vr a1), (2, .int a2)] [] τ (Tp_release_L0 n τ a1 a2) := by
  revert τ a1 a2
  show ∀ (τ : XS) (a1 : Option Nat) (a2 : Int32), AT z x 4 (wX z σ) rU (eqA ad) 0 0 0 0 ad 0 [(0, .ref 54), (1, vr a1), (2, .int a2)] [] τ (Tp_release_L0_r n τ a1 a2)
  induction n with
  | zero => intro τ a1 a2; exact at_none
  | succ n hk_0 =>
    intro τ a1 a2
    unfold Tp_release_L0_r
    refine at_aload_n (j := 0) hC rfl rfl dX7_release_0 ?_
    refine gf_X7_96 hC dX7_release_1 ?_
    refine at_if_le (tgt := 78) hC dX7_release_4 rfl (fun _ => ?_) (fun _ => ?_)
    · exact at_vret (F := eqA ad) (ra := rU) hC dX7_release_78 rfl (Nat.le_refl 0) (Nat.le_refl 0) rfl
    · refine at_aload_n (j := 0) hC rfl rfl dX7_release_7 ?_
      refine gf_X7_15 hC dX7_release_8 ?_
      refine at_aload_n (j := 0) hC rfl rfl dX7_release_11 ?_
      refine gf_X7_96 hC dX7_release_12 ?_
      refine at_iconst hC ic_1 dX7_release_15 ?_
      refine at_isub hC dX7_release_16 ?_
      refine at_iald hC 56 dX7_release_17 cl_56 (fun v1 => ?_)
      refine at_callSpI hC hR lk_X7_109 (c_Tp_strength τ v1) dX7_release_18 rfl rfl ⟨by decide, by decide⟩ (Nat.le_of_ble_eq_true rfl) ⟨Nat.le_refl 0, Nat.le_refl 0⟩ (fun r2 _ => ?_)
      refine at_iload_n (j := 2) hC rfl rfl dX7_release_21 ?_
      refine at_icmp_lt (tgt := 78) hC dX7_release_22 rfl (fun _ => ?_) (fun _ => ?_)
      · exact at_vret (F := eqA ad) (ra := rU) hC dX7_release_78 rfl (Nat.le_refl 0) (Nat.le_refl 0) rfl
      · refine at_aload_n (j := 0) hC rfl rfl dX7_release_25 ?_
        refine gf_X7_15 hC dX7_release_26 ?_
        refine at_aload_n (j := 0) hC rfl rfl dX7_release_29 ?_
        refine gf_X7_96 hC dX7_release_30 ?_
        refine at_iconst hC ic_1 dX7_release_33 ?_
        refine at_isub hC dX7_release_34 ?_
        refine at_iald hC 56 dX7_release_35 cl_56 (fun v3 => ?_)
        refine at_istore_n (lv' := [(3, .int v3), (0, .ref 54), (1, vr a1), (2, .int a2)]) hC rfl dX7_release_36 (by decide) rfl ?_
        refine at_aload_nV (j := 2) hC rfl rfl dX7_release_37 ?_
        refine at_iload_n (j := 0) hC rfl rfl dX7_release_38 ?_
        refine at_bipush hC bi_43 dX7_release_39 ?_
        refine at_icmp_ne (tgt := 49) hC dX7_release_41 rfl (fun _ => ?_) (fun _ => ?_)
        · refine at_iload_n (j := 0) hC rfl rfl dX7_release_49 ?_
          refine at_bipush hC bi_45 dX7_release_50 ?_
          refine at_icmp_ne (tgt := 60) hC dX7_release_52 rfl (fun _ => ?_) (fun _ => ?_)
          · refine at_bipush hC bi_m13 dX7_release_60 ?_
            refine at_drop (lv' := [(0, .ref 54), (1, vr a1), (2, .int a2)]) [1, 2, 3] rfl ?_
            exact t_Tp_release_J62 hC hR (Tp_release_L0_r n) hk_0 τ a1 a2 (-13) a1
          · refine at_bipush hC bi_m12 dX7_release_55 ?_
            refine at_goto (tgt := 62) hC dX7_release_57 rfl ?_
            refine at_drop (lv' := [(0, .ref 54), (1, vr a1), (2, .int a2)]) [1, 2, 3] rfl ?_
            exact t_Tp_release_J62 hC hR (Tp_release_L0_r n) hk_0 τ a1 a2 (-12) a1
        · refine at_bipush hC bi_m11 dX7_release_44 ?_
          refine at_goto (tgt := 62) hC dX7_release_46 rfl ?_
          refine at_drop (lv' := [(0, .ref 54), (1, vr a1), (2, .int a2)]) [1, 2, 3] rfl ?_
          exact t_Tp_release_J62 hC hR (Tp_release_L0_r n) hk_0 τ a1 a2 (-11) a1
set_option maxRecDepth 100000 in
theorem c_Tp_release (τ : XS) (p0 : Option Nat) (p1 : Int32) : Ct z (wX z σ) rU eqA yX7_release cX7_release 4 none 2 0 0 [.ref 54, vr p0, .int p1] τ (Tp_release τ p0 p1) := by
  refine Ct.of (by decide) (by cases p0 <;> exact Nat.le_of_ble_eq_true rfl) (fun ad x hC hR _ => ?_)
  rw [show lv_args 0 [.ref 54, vr p0, .int p1] = [(0, .ref 54), (1, vr p0), (2, .int p1)] from by cases p0 <;> rfl]
  show AT z x 4 (wX z σ) rU (eqA ad) 0 0 0 0 ad 0 [(0, .ref 54), (1, vr p0), (2, .int p1)] [] τ (Tp_release τ p0 p1)
  unfold Tp_release
  exact t_Tp_release_L0 hC hR 100000 τ p0 p1
theorem dX7_readSum_0 : decode cX7_readSum 0 = .ok (.aload_n 0, 1) := by decide +kernel
theorem dX7_readSum_1 : decode cX7_readSum 1 = .ok (.iconst 0, 1) := by decide +kernel
theorem dX7_readSum_2 : decode cX7_readSum 2 = .ok (.putfield 96, 3) := by decide +kernel
theorem dX7_readSum_5 : decode cX7_readSum 5 = .ok (.iconst 0, 1) := by decide +kernel
theorem dX7_readSum_6 : decode cX7_readSum 6 = .ok (.istore_n 2, 1) := by decide +kernel
theorem dX7_readSum_7 : decode cX7_readSum 7 = .ok (.iconst 1, 1) := by decide +kernel
theorem dX7_readSum_8 : decode cX7_readSum 8 = .ok (.istore_n 3, 1) := by decide +kernel
theorem dX7_readSum_9 : decode cX7_readSum 9 = .ok (.iconst 0, 1) := by decide +kernel
theorem dX7_readSum_10 : decode cX7_readSum 10 = .ok (.istore 4, 2) := by decide +kernel
theorem dX7_readSum_12 : decode cX7_readSum 12 = .ok (.iload 4, 2) := by decide +kernel
theorem dX7_readSum_14 : decode cX7_readSum 14 = .ok (.sipush 200, 3) := by decide +kernel
theorem dX7_readSum_17 : decode cX7_readSum 17 = .ok (.if_icmp .gt 165, 3) := by decide +kernel
theorem dX7_readSum_20 : decode cX7_readSum 20 = .ok (.aload_n 0, 1) := by decide +kernel
theorem dX7_readSum_21 : decode cX7_readSum 21 = .ok (.invokevirtual 30, 3) := by decide +kernel
theorem dX7_readSum_24 : decode cX7_readSum 24 = .ok (.istore 5, 2) := by decide +kernel
theorem dX7_readSum_26 : decode cX7_readSum 26 = .ok (.iload_n 3, 1) := by decide +kernel
theorem dX7_readSum_27 : decode cX7_readSum 27 = .ok (.ifCond .eq 22, 3) := by decide +kernel
theorem dX7_readSum_30 : decode cX7_readSum 30 = .ok (.iload 5, 2) := by decide +kernel
theorem dX7_readSum_32 : decode cX7_readSum 32 = .ok (.bipush 40, 2) := by decide +kernel
theorem dX7_readSum_34 : decode cX7_readSum 34 = .ok (.if_icmp .ne 15, 3) := by decide +kernel
theorem dX7_readSum_37 : decode cX7_readSum 37 = .ok (.aload_n 0, 1) := by decide +kernel
theorem dX7_readSum_38 : decode cX7_readSum 38 = .ok (.iload 5, 2) := by decide +kernel
theorem dX7_readSum_40 : decode cX7_readSum 40 = .ok (.invokevirtual 99, 3) := by decide +kernel
theorem dX7_readSum_43 : decode cX7_readSum 43 = .ok (.iinc 2 1, 3) := by decide +kernel
theorem dX7_readSum_46 : decode cX7_readSum 46 = .ok (.goto 130, 3) := by decide +kernel
theorem dX7_readSum_49 : decode cX7_readSum 49 = .ok (.iload_n 3, 1) := by decide +kernel
theorem dX7_readSum_50 : decode cX7_readSum 50 = .ok (.ifCond .eq 18, 3) := by decide +kernel
theorem dX7_readSum_53 : decode cX7_readSum 53 = .ok (.aload_n 0, 1) := by decide +kernel
theorem dX7_readSum_54 : decode cX7_readSum 54 = .ok (.aload_n 1, 1) := by decide +kernel
theorem dX7_readSum_55 : decode cX7_readSum 55 = .ok (.invokevirtual 102, 3) := by decide +kernel
theorem dX7_readSum_58 : decode cX7_readSum 58 = .ok (.ifCond .ne 5, 3) := by decide +kernel
theorem dX7_readSum_61 : decode cX7_readSum 61 = .ok (.iconst 0, 1) := by decide +kernel
theorem dX7_readSum_62 : decode cX7_readSum 62 = .ok (.ireturn, 1) := by decide +kernel
theorem dX7_readSum_63 : decode cX7_readSum 63 = .ok (.iconst 0, 1) := by decide +kernel
theorem dX7_readSum_64 : decode cX7_readSum 64 = .ok (.istore_n 3, 1) := by decide +kernel
theorem dX7_readSum_65 : decode cX7_readSum 65 = .ok (.goto 111, 3) := by decide +kernel
theorem dX7_readSum_68 : decode cX7_readSum 68 = .ok (.iload 5, 2) := by decide +kernel
theorem dX7_readSum_70 : decode cX7_readSum 70 = .ok (.bipush 41, 2) := by decide +kernel
theorem dX7_readSum_72 : decode cX7_readSum 72 = .ok (.if_icmp .ne 46, 3) := by decide +kernel
theorem dX7_readSum_75 : decode cX7_readSum 75 = .ok (.iload_n 2, 1) := by decide +kernel
theorem dX7_readSum_76 : decode cX7_readSum 76 = .ok (.ifCond .le 42, 3) := by decide +kernel
theorem dX7_readSum_79 : decode cX7_readSum 79 = .ok (.aload_n 0, 1) := by decide +kernel
theorem dX7_readSum_80 : decode cX7_readSum 80 = .ok (.aload_n 1, 1) := by decide +kernel
theorem dX7_readSum_81 : decode cX7_readSum 81 = .ok (.iconst 1, 1) := by decide +kernel
theorem dX7_readSum_82 : decode cX7_readSum 82 = .ok (.invokevirtual 105, 3) := by decide +kernel
theorem dX7_readSum_85 : decode cX7_readSum 85 = .ok (.aload_n 0, 1) := by decide +kernel
theorem dX7_readSum_86 : decode cX7_readSum 86 = .ok (.getfield 96, 3) := by decide +kernel
theorem dX7_readSum_89 : decode cX7_readSum 89 = .ok (.ifCond .le 13, 3) := by decide +kernel
theorem dX7_readSum_92 : decode cX7_readSum 92 = .ok (.aload_n 0, 1) := by decide +kernel
theorem dX7_readSum_93 : decode cX7_readSum 93 = .ok (.dup, 1) := by decide +kernel
theorem dX7_readSum_94 : decode cX7_readSum 94 = .ok (.getfield 96, 3) := by decide +kernel
theorem dX7_readSum_97 : decode cX7_readSum 97 = .ok (.iconst 1, 1) := by decide +kernel
theorem dX7_readSum_98 : decode cX7_readSum 98 = .ok (.isub, 1) := by decide +kernel
theorem dX7_readSum_99 : decode cX7_readSum 99 = .ok (.putfield 96, 3) := by decide +kernel
theorem dX7_readSum_102 : decode cX7_readSum 102 = .ok (.iinc 2 (-1), 3) := by decide +kernel
theorem dX7_readSum_105 : decode cX7_readSum 105 = .ok (.aload_n 0, 1) := by decide +kernel
theorem dX7_readSum_106 : decode cX7_readSum 106 = .ok (.dup, 1) := by decide +kernel
theorem dX7_readSum_107 : decode cX7_readSum 107 = .ok (.getfield 27, 3) := by decide +kernel
theorem dX7_readSum_110 : decode cX7_readSum 110 = .ok (.iconst 1, 1) := by decide +kernel
theorem dX7_readSum_111 : decode cX7_readSum 111 = .ok (.iadd, 1) := by decide +kernel
theorem dX7_readSum_112 : decode cX7_readSum 112 = .ok (.putfield 27, 3) := by decide +kernel
theorem dX7_readSum_115 : decode cX7_readSum 115 = .ok (.goto 61, 3) := by decide +kernel
theorem dX7_readSum_118 : decode cX7_readSum 118 = .ok (.iload 5, 2) := by decide +kernel
theorem dX7_readSum_120 : decode cX7_readSum 120 = .ok (.bipush 43, 2) := by decide +kernel
theorem dX7_readSum_122 : decode cX7_readSum 122 = .ok (.if_icmp .eq 17, 3) := by decide +kernel
theorem dX7_readSum_125 : decode cX7_readSum 125 = .ok (.iload 5, 2) := by decide +kernel
theorem dX7_readSum_127 : decode cX7_readSum 127 = .ok (.bipush 45, 2) := by decide +kernel
theorem dX7_readSum_129 : decode cX7_readSum 129 = .ok (.if_icmp .eq 10, 3) := by decide +kernel
theorem dX7_readSum_132 : decode cX7_readSum 132 = .ok (.iload 5, 2) := by decide +kernel
theorem dX7_readSum_134 : decode cX7_readSum 134 = .ok (.bipush 42, 2) := by decide +kernel
theorem dX7_readSum_136 : decode cX7_readSum 136 = .ok (.if_icmp .ne 24, 3) := by decide +kernel
theorem dX7_readSum_139 : decode cX7_readSum 139 = .ok (.aload_n 0, 1) := by decide +kernel
theorem dX7_readSum_140 : decode cX7_readSum 140 = .ok (.aload_n 1, 1) := by decide +kernel
theorem dX7_readSum_141 : decode cX7_readSum 141 = .ok (.iload 5, 2) := by decide +kernel
theorem dX7_readSum_143 : decode cX7_readSum 143 = .ok (.invokestatic 109, 3) := by decide +kernel
theorem dX7_readSum_146 : decode cX7_readSum 146 = .ok (.invokevirtual 105, 3) := by decide +kernel
theorem dX7_readSum_149 : decode cX7_readSum 149 = .ok (.aload_n 0, 1) := by decide +kernel
theorem dX7_readSum_150 : decode cX7_readSum 150 = .ok (.iload 5, 2) := by decide +kernel
theorem dX7_readSum_152 : decode cX7_readSum 152 = .ok (.invokevirtual 99, 3) := by decide +kernel
theorem dX7_readSum_155 : decode cX7_readSum 155 = .ok (.iconst 1, 1) := by decide +kernel
theorem dX7_readSum_156 : decode cX7_readSum 156 = .ok (.istore_n 3, 1) := by decide +kernel
theorem dX7_readSum_157 : decode cX7_readSum 157 = .ok (.goto 19, 3) := by decide +kernel
theorem dX7_readSum_160 : decode cX7_readSum 160 = .ok (.aload_n 0, 1) := by decide +kernel
theorem dX7_readSum_161 : decode cX7_readSum 161 = .ok (.aload_n 1, 1) := by decide +kernel
theorem dX7_readSum_162 : decode cX7_readSum 162 = .ok (.iconst 1, 1) := by decide +kernel
theorem dX7_readSum_163 : decode cX7_readSum 163 = .ok (.invokevirtual 105, 3) := by decide +kernel
theorem dX7_readSum_166 : decode cX7_readSum 166 = .ok (.iload_n 2, 1) := by decide +kernel
theorem dX7_readSum_167 : decode cX7_readSum 167 = .ok (.ifCond .ne 7, 3) := by decide +kernel
theorem dX7_readSum_170 : decode cX7_readSum 170 = .ok (.iconst 1, 1) := by decide +kernel
theorem dX7_readSum_171 : decode cX7_readSum 171 = .ok (.goto 4, 3) := by decide +kernel
theorem dX7_readSum_174 : decode cX7_readSum 174 = .ok (.iconst 0, 1) := by decide +kernel
theorem dX7_readSum_175 : decode cX7_readSum 175 = .ok (.ireturn, 1) := by decide +kernel
theorem dX7_readSum_176 : decode cX7_readSum 176 = .ok (.iinc 4 1, 3) := by decide +kernel
theorem dX7_readSum_179 : decode cX7_readSum 179 = .ok (.goto (-167), 3) := by decide +kernel
theorem dX7_readSum_182 : decode cX7_readSum 182 = .ok (.iconst 0, 1) := by decide +kernel
theorem dX7_readSum_183 : decode cX7_readSum 183 = .ok (.ireturn, 1) := by decide +kernel
set_option maxRecDepth 100000 in
theorem t_Tp_readSum_J176 (hC : CX z ad x cX7_readSum RX7 6 (some .boolean)) (hR : x.2.2.1 = rmk 8 0 0) (k_12 : XS → Option Nat → Int32 → Int32 → Int32 → Option (Int32 × XS)) (hk_12 : ∀ (τ : XS) (a1 : Option Nat) (a2 : Int32) (a3 : Int32) (a4 : Int32), AT z x 6 (wX z σ) rI (eqA ad) 0 0 0 0 ad 12 [(0, .ref 54), (1, vr a1), (2, .int a2), (3, .int a3), (4, .int a4)] [] τ (k_12 τ a1 a2 a3 a4)) (τ : XS) (a1 : Option Nat) (a2 : Int32) (a3 : Int32) (a4 : Int32) : AT z x 6 (wX z σ) rI (eqA ad) 0 0 0 0 ad 176 [(0, .ref 54), (1, vr a1), (2, .int a2), (3, .int a3), (4, .int a4)] [] τ (Tp_readSum_J176 k_12 τ a1 a2 a3 a4) := by
  unfold Tp_readSum_J176
  refine at_iinc (j := 4) (v := a4 + 1) (lv' := [(4, .int (a4 + 1)), (0, .ref 54), (1, vr a1), (2, .int a2), (3, .int a3)]) hC dX7_readSum_176 rfl rfl (by decide) rfl ?_
  refine at_goto (tgt := 12) hC dX7_readSum_179 rfl ?_
  refine at_drop (lv' := [(0, .ref 54), (1, vr a1), (2, .int a2), (3, .int a3), (4, .int (a4 + 1))]) [1, 2, 3, 4, 0] rfl ?_
  exact hk_12 τ a1 a2 a3 (a4 + 1)
set_option maxRecDepth 100000 in
theorem t_Tp_readSum_J139 (hC : CX z ad x cX7_readSum RX7 6 (some .boolean)) (hR : x.2.2.1 = rmk 8 0 0) (k_12 : XS → Option Nat → Int32 → Int32 → Int32 → Option (Int32 × XS)) (hk_12 : ∀ (τ : XS) (a1 : Option Nat) (a2 : Int32) (a3 : Int32) (a4 : Int32), AT z x 6 (wX z σ) rI (eqA ad) 0 0 0 0 ad 12 [(0, .ref 54), (1, vr a1), (2, .int a2), (3, .int a3), (4, .int a4)] [] τ (k_12 τ a1 a2 a3 a4)) (τ : XS) (a1 : Option Nat) (a2 : Int32) (a4 : Int32) (a5 : Int32) : AT z x 6 (wX z σ) rI (eqA ad) 0 0 0 0 ad 139 [(0, .ref 54), (1, vr a1), (2, .int a2), (4, .int a4), (5, .int a5)] [] τ (Tp_readSum_J139 k_12 τ a1 a2 a4 a5) := by
  unfold Tp_readSum_J139
  refine at_aload_n (j := 0) hC rfl rfl dX7_readSum_139 ?_
  refine at_aload_nV (j := 1) hC rfl rfl dX7_readSum_140 ?_
  refine at_iload (j := 4) hC rfl dX7_readSum_141 ?_
  refine at_callSpI hC hR lk_X7_109 (c_Tp_strength τ a5) dX7_readSum_143 rfl rfl ⟨by decide, by decide⟩ (by cases a1 <;> exact Nat.le_of_ble_eq_true rfl) ⟨Nat.le_refl 0, Nat.le_refl 0⟩ (fun r2 _ => ?_)
  refine at_callVU hC hR lk_X7_105 (c_Tp_release τ a1 r2) dX7_readSum_146 recX7 rfl rfl ⟨by decide, by decide⟩ (Nat.le_of_ble_eq_true rfl) ⟨Nat.le_refl 0, Nat.le_refl 0⟩ (fun r3 r3s _ => ?_)
  refine at_aload_n (j := 0) hC rfl rfl dX7_readSum_149 ?_
  refine at_iload (j := 4) hC rfl dX7_readSum_150 ?_
  refine at_callVU hC hR lk_X7_99 (c_Tp_hold r3s a5) dX7_readSum_152 recX7 rfl rfl ⟨by decide, by decide⟩ (Nat.le_of_ble_eq_true rfl) ⟨Nat.le_refl 0, Nat.le_refl 0⟩ (fun r4 r4s _ => ?_)
  refine at_iconst hC ic_1 dX7_readSum_155 ?_
  refine at_istore_n (lv' := [(3, .int 1), (0, .ref 54), (1, vr a1), (2, .int a2), (4, .int a4), (5, .int a5)]) hC rfl dX7_readSum_156 (by decide) rfl ?_
  refine at_goto (tgt := 176) hC dX7_readSum_157 rfl ?_
  refine at_drop (lv' := [(0, .ref 54), (1, vr a1), (2, .int a2), (3, .int 1), (4, .int a4)]) [1, 2, 3, 0, 4] rfl ?_
  exact t_Tp_readSum_J176 hC hR k_12 hk_12 r4s a1 a2 1 a4
set_option maxRecDepth 100000 in
theorem t_Tp_readSum_J118 (hC : CX z ad x cX7_readSum RX7 6 (some .boolean)) (hR : x.2.2.1 = rmk 8 0 0) (k_12 : XS → Option Nat → Int32 → Int32 → Int32 → Option (Int32 × XS)) (hk_12 : ∀ (τ : XS) (a1 : Option Nat) (a2 : Int32) (a3 : Int32) (a4 : Int32), AT z x 6 (wX z σ) rI (eqA ad) 0 0 0 0 ad 12 [(0, .ref 54), (1, vr a1), (2, .int a2), (3, .int a3), (4, .int a4)] [] τ (k_12 τ a1 a2 a3 a4)) (τ : XS) (a1 : Option Nat) (a2 : Int32) (a4 : Int32) (a5 : Int32) : AT z x 6 (wX z σ) rI (eqA ad) 0 0 0 0 ad 118 [(0, .ref 54), (1, vr a1), (2, .int a2), (4, .int a4), (5, .int a5)] [] τ (Tp_readSum_J118 k_12 τ a1 a2 a4 a5) := by
  unfold Tp_readSum_J118
  refine at_iload (j := 4) hC rfl dX7_readSum_118 ?_
  refine at_bipush hC bi_43 dX7_readSum_120 ?_
  refine at_icmp_eq (tgt := 139) hC dX7_readSum_122 rfl (fun _ => ?_) (fun _ => ?_)
  · exact t_Tp_readSum_J139 hC hR k_12 hk_12 τ a1 a2 a4 a5
  · refine at_iload (j := 4) hC rfl dX7_readSum_125 ?_
    refine at_bipush hC bi_45 dX7_readSum_127 ?_
    refine at_icmp_eq (tgt := 139) hC dX7_readSum_129 rfl (fun _ => ?_) (fun _ => ?_)
    · exact t_Tp_readSum_J139 hC hR k_12 hk_12 τ a1 a2 a4 a5
    · refine at_iload (j := 4) hC rfl dX7_readSum_132 ?_
      refine at_bipush hC bi_42 dX7_readSum_134 ?_
      refine at_icmp_ne (tgt := 160) hC dX7_readSum_136 rfl (fun _ => ?_) (fun _ => ?_)
      · refine at_aload_n (j := 0) hC rfl rfl dX7_readSum_160 ?_
        refine at_aload_nV (j := 1) hC rfl rfl dX7_readSum_161 ?_
        refine at_iconst hC ic_1 dX7_readSum_162 ?_
        refine at_callVU hC hR lk_X7_105 (c_Tp_release τ a1 1) dX7_readSum_163 recX7 rfl rfl ⟨by decide, by decide⟩ (Nat.le_of_ble_eq_true rfl) ⟨Nat.le_refl 0, Nat.le_refl 0⟩ (fun r5 r5s _ => ?_)
        refine at_iload_n (j := 2) hC rfl rfl dX7_readSum_166 ?_
        refine at_if_ne (tgt := 174) hC dX7_readSum_167 rfl (fun _ => ?_) (fun _ => ?_)
        · refine at_iconst hC ic_0 dX7_readSum_174 ?_
          exact at_zret (F := eqA ad) (ra := rI) hC nb0 dX7_readSum_175 rfl (Nat.le_refl 0) (Nat.le_refl 0) rfl
        · refine at_iconst hC ic_1 dX7_readSum_170 ?_
          refine at_goto (tgt := 175) hC dX7_readSum_171 rfl ?_
          exact at_zret (F := eqA ad) (ra := rI) hC nb1 dX7_readSum_175 rfl (Nat.le_refl 0) (Nat.le_refl 0) rfl
      · exact t_Tp_readSum_J139 hC hR k_12 hk_12 τ a1 a2 a4 a5
set_option maxRecDepth 100000 in
theorem t_Tp_readSum_J102 (hC : CX z ad x cX7_readSum RX7 6 (some .boolean)) (hR : x.2.2.1 = rmk 8 0 0) (k_12 : XS → Option Nat → Int32 → Int32 → Int32 → Option (Int32 × XS)) (hk_12 : ∀ (τ : XS) (a1 : Option Nat) (a2 : Int32) (a3 : Int32) (a4 : Int32), AT z x 6 (wX z σ) rI (eqA ad) 0 0 0 0 ad 12 [(0, .ref 54), (1, vr a1), (2, .int a2), (3, .int a3), (4, .int a4)] [] τ (k_12 τ a1 a2 a3 a4)) (τ : XS) (a1 : Option Nat) (a2 : Int32) (a3 : Int32) (a4 : Int32) : AT z x 6 (wX z σ) rI (eqA ad) 0 0 0 0 ad 102 [(0, .ref 54), (1, vr a1), (2, .int a2), (3, .int a3), (4, .int a4)] [] τ (Tp_readSum_J102 k_12 τ a1 a2 a3 a4) := by
  unfold Tp_readSum_J102
  refine at_iinc (j := 2) (v := a2 + (-1)) (lv' := [(2, .int (a2 + (-1))), (0, .ref 54), (1, vr a1), (3, .int a3), (4, .int a4)]) hC dX7_readSum_102 rfl rfl (by decide) (by cases a1 <;> rfl) ?_
  refine at_aload_n (j := 1) hC rfl rfl dX7_readSum_105 ?_
  refine at_dup hC rfl dX7_readSum_106 ?_
  refine gf_X7_27 hC dX7_readSum_107 ?_
  refine at_iconst hC ic_1 dX7_readSum_110 ?_
  refine at_iadd hC dX7_readSum_111 ?_
  refine pf_X7_27 hC dX7_readSum_112 ?_
  refine at_goto (tgt := 176) hC dX7_readSum_115 rfl ?_
  refine at_drop (lv' := [(0, .ref 54), (1, vr a1), (2, .int (a2 + (-1))), (3, .int a3), (4, .int a4)]) [1, 2, 0, 3, 4] rfl ?_
  exact t_Tp_readSum_J176 hC hR k_12 hk_12 (xI τ 702 ((τ.1 702) + 1)) a1 (a2 + (-1)) a3 a4
set_option maxRecDepth 100000 in
theorem t_Tp_readSum_J49 (hC : CX z ad x cX7_readSum RX7 6 (some .boolean)) (hR : x.2.2.1 = rmk 8 0 0) (k_12 : XS → Option Nat → Int32 → Int32 → Int32 → Option (Int32 × XS)) (hk_12 : ∀ (τ : XS) (a1 : Option Nat) (a2 : Int32) (a3 : Int32) (a4 : Int32), AT z x 6 (wX z σ) rI (eqA ad) 0 0 0 0 ad 12 [(0, .ref 54), (1, vr a1), (2, .int a2), (3, .int a3), (4, .int a4)] [] τ (k_12 τ a1 a2 a3 a4)) (τ : XS) (a1 : Option Nat) (a2 : Int32) (a3 : Int32) (a4 : Int32) (a5 : Int32) : AT z x 6 (wX z σ) rI (eqA ad) 0 0 0 0 ad 49 [(0, .ref 54), (1, vr a1), (2, .int a2), (3, .int a3), (4, .int a4), (5, .int a5)] [] τ (Tp_readSum_J49 k_12 τ a1 a2 a3 a4 a5) := by
  unfold Tp_readSum_J49
  refine at_iload_n (j := 3) hC rfl rfl dX7_readSum_49 ?_
  refine at_if_eq (tgt := 68) hC dX7_readSum_50 rfl (fun _ => ?_) (fun _ => ?_)
  · refine at_iload (j := 5) hC rfl dX7_readSum_68 ?_
    refine at_bipush hC bi_41 dX7_readSum_70 ?_
    refine at_icmp_ne (tgt := 118) hC dX7_readSum_72 rfl (fun _ => ?_) (fun _ => ?_)
    · refine at_drop (lv' := [(0, .ref 54), (1, vr a1), (2, .int a2), (4, .int a4), (5, .int a5)]) [0, 1, 2, 4, 5] rfl ?_
      exact t_Tp_readSum_J118 hC hR k_12 hk_12 τ a1 a2 a4 a5
    · refine at_iload_n (j := 2) hC rfl rfl dX7_readSum_75 ?_
      refine at_if_le (tgt := 118) hC dX7_readSum_76 rfl (fun _ => ?_) (fun _ => ?_)
      · refine at_drop (lv' := [(0, .ref 54), (1, vr a1), (2, .int a2), (4, .int a4), (5, .int a5)]) [0, 1, 2, 4, 5] rfl ?_
        exact t_Tp_readSum_J118 hC hR k_12 hk_12 τ a1 a2 a4 a5
      · refine at_aload_n (j := 0) hC rfl rfl dX7_readSum_79 ?_
        refine at_aload_nV (j := 1) hC rfl rfl dX7_readSum_80 ?_
        refine at_iconst hC ic_1 dX7_readSum_81 ?_
        refine at_callVU hC hR lk_X7_105 (c_Tp_release τ a1 1) dX7_readSum_82 recX7 rfl rfl ⟨by decide, by decide⟩ (Nat.le_of_ble_eq_true rfl) ⟨Nat.le_refl 0, Nat.le_refl 0⟩ (fun r6 r6s _ => ?_)
        refine at_aload_n (j := 0) hC rfl rfl dX7_readSum_85 ?_
        refine gf_X7_96 hC dX7_readSum_86 ?_
        refine at_if_le (tgt := 102) hC dX7_readSum_89 rfl (fun _ => ?_) (fun _ => ?_)
        · refine at_drop (lv' := [(0, .ref 54), (1, vr a1), (2, .int a2), (3, .int a3), (4, .int a4)]) [0, 1, 2, 3, 4] rfl ?_
          exact t_Tp_readSum_J102 hC hR k_12 hk_12 r6s a1 a2 a3 a4
        · refine at_aload_n (j := 0) hC rfl rfl dX7_readSum_92 ?_
          refine at_dup hC rfl dX7_readSum_93 ?_
          refine gf_X7_96 hC dX7_readSum_94 ?_
          refine at_iconst hC ic_1 dX7_readSum_97 ?_
          refine at_isub hC dX7_readSum_98 ?_
          refine pf_X7_96 hC dX7_readSum_99 ?_
          refine at_drop (lv' := [(0, .ref 54), (1, vr a1), (2, .int a2), (3, .int a3), (4, .int a4)]) [0, 1, 2, 3, 4] rfl ?_
          exact t_Tp_readSum_J102 hC hR k_12 hk_12 (xI r6s 704 ((r6s.1 704) - 1)) a1 a2 a3 a4
  · refine at_aload_n (j := 0) hC rfl rfl dX7_readSum_53 ?_
    refine at_aload_nV (j := 1) hC rfl rfl dX7_readSum_54 ?_
    refine at_callVI hC hR lk_X7_102 (c_Tp_readOne τ a1) dX7_readSum_55 recX7 rfl rfl ⟨by decide, by decide⟩ (Nat.le_of_ble_eq_true rfl) ⟨Nat.le_refl 0, Nat.le_refl 0⟩ (fun r7 r7s _ => ?_)
    refine at_if_ne (tgt := 63) hC dX7_readSum_58 rfl (fun _ => ?_) (fun _ => ?_)
    · refine at_iconst hC ic_0 dX7_readSum_63 ?_
      refine at_istore_n (lv' := [(3, .int 0), (0, .ref 54), (1, vr a1), (2, .int a2), (4, .int a4), (5, .int a5)]) hC rfl dX7_readSum_64 (by decide) rfl ?_
      refine at_goto (tgt := 176) hC dX7_readSum_65 rfl ?_
      refine at_drop (lv' := [(0, .ref 54), (1, vr a1), (2, .int a2), (3, .int 0), (4, .int a4)]) [1, 2, 3, 0, 4] rfl ?_
      exact t_Tp_readSum_J176 hC hR k_12 hk_12 r7s a1 a2 0 a4
    · refine at_iconst hC ic_0 dX7_readSum_61 ?_
      exact at_zret (F := eqA ad) (ra := rI) hC nb0 dX7_readSum_62 rfl (Nat.le_refl 0) (Nat.le_refl 0) rfl
set_option maxRecDepth 100000 in
theorem t_Tp_readSum_L12 (hC : CX z ad x cX7_readSum RX7 6 (some .boolean)) (hR : x.2.2.1 = rmk 8 0 0) (n : Nat) (τ : XS) (a1 : Option Nat) (a2 : Int32) (a3 : Int32) (a4 : Int32) : AT z x 6 (wX z σ) rI (eqA ad) 0 0 0 0 ad 12 [(0, .ref 54), (1, vr a1), (2, .int a2), (3, .int a3), (4, .int a4)] [] τ (Tp_readSum_L12 n τ a1 a2 a3 a4) := by
  revert τ a1 a2 a3 a4
  show ∀ (τ : XS) (a1 : Option Nat) (a2 : Int32) (a3 : Int32) (a4 : Int32), AT z x 6 (wX z σ) rI (eqA ad) 0 0 0 0 ad 12 [(0, .ref 54), (1, vr a1), (2, .int a2), (3, .int a3), (4, .int a4)] [] τ (Tp_readSum_L12_r n τ a1 a2 a3 a4)
  induction n with
  | zero => intro τ a1 a2 a3 a4; exact at_none
  | succ n hk_12 =>
    intro τ a1 a2 a3 a4
    unfold Tp_readSum_L12_r
    refine at_iload (j := 4) hC rfl dX7_readSum_12 ?_
    refine at_sipush hC si_200 dX7_readSum_14 ?_
    refine at_icmp_gt (tgt := 182) hC dX7_readSum_17 rfl (fun _ => ?_) (fun _ => ?_)
    · refine at_iconst hC ic_0 dX7_readSum_182 ?_
      exact at_zret (F := eqA ad) (ra := rI) hC nb0 dX7_readSum_183 rfl (Nat.le_refl 0) (Nat.le_refl 0) rfl
    · refine at_aload_n (j := 0) hC rfl rfl dX7_readSum_20 ?_
      refine at_callVpI hC hR lk_X7_30 (c_Tp_next τ) dX7_readSum_21 recX7 rfl rfl ⟨by decide, by decide⟩ (Nat.le_of_ble_eq_true rfl) ⟨Nat.le_refl 0, Nat.le_refl 0⟩ (fun r1 _ => ?_)
      refine at_istore (lv' := [(5, .int r1), (0, .ref 54), (1, vr a1), (2, .int a2), (3, .int a3), (4, .int a4)]) hC dX7_readSum_24 (by decide) rfl ?_
      refine at_iload_n (j := 4) hC rfl rfl dX7_readSum_26 ?_
      refine at_if_eq (tgt := 49) hC dX7_readSum_27 rfl (fun _ => ?_) (fun _ => ?_)
      · refine at_drop (lv' := [(0, .ref 54), (1, vr a1), (2, .int a2), (3, .int a3), (4, .int a4), (5, .int r1)]) [1, 2, 3, 4, 5, 0] rfl ?_
        exact t_Tp_readSum_J49 hC hR (Tp_readSum_L12_r n) hk_12 τ a1 a2 a3 a4 r1
      · refine at_iload (j := 0) hC rfl dX7_readSum_30 ?_
        refine at_bipush hC bi_40 dX7_readSum_32 ?_
        refine at_icmp_ne (tgt := 49) hC dX7_readSum_34 rfl (fun _ => ?_) (fun _ => ?_)
        · refine at_drop (lv' := [(0, .ref 54), (1, vr a1), (2, .int a2), (3, .int a3), (4, .int a4), (5, .int r1)]) [1, 2, 3, 4, 5, 0] rfl ?_
          exact t_Tp_readSum_J49 hC hR (Tp_readSum_L12_r n) hk_12 τ a1 a2 a3 a4 r1
        · refine at_aload_n (j := 1) hC rfl rfl dX7_readSum_37 ?_
          refine at_iload (j := 0) hC rfl dX7_readSum_38 ?_
          refine at_callVU hC hR lk_X7_99 (c_Tp_hold τ r1) dX7_readSum_40 recX7 rfl rfl ⟨by decide, by decide⟩ (Nat.le_of_ble_eq_true rfl) ⟨Nat.le_refl 0, Nat.le_refl 0⟩ (fun r8 r8s _ => ?_)
          refine at_iinc (j := 3) (v := a2 + 1) (lv' := [(2, .int (a2 + 1)), (5, .int r1), (0, .ref 54), (1, vr a1), (3, .int a3), (4, .int a4)]) hC dX7_readSum_43 rfl rfl (by decide) (by cases a1 <;> rfl) ?_
          refine at_goto (tgt := 176) hC dX7_readSum_46 rfl ?_
          refine at_drop (lv' := [(0, .ref 54), (1, vr a1), (2, .int (a2 + 1)), (3, .int a3), (4, .int a4)]) [2, 3, 0, 4, 5] rfl ?_
          exact t_Tp_readSum_J176 hC hR (Tp_readSum_L12_r n) hk_12 r8s a1 (a2 + 1) a3 a4
set_option maxRecDepth 100000 in
theorem c_Tp_readSum (τ : XS) (p0 : Option Nat) : Ct z (wX z σ) rI eqA yX7_readSum cX7_readSum 6 (some .boolean) 8 0 0 [.ref 54, vr p0] τ (Tp_readSum τ p0) := by
  refine Ct.of (by decide) (by cases p0 <;> exact Nat.le_of_ble_eq_true rfl) (fun ad x hC hR _ => ?_)
  rw [show lv_args 0 [.ref 54, vr p0] = [(0, .ref 54), (1, vr p0)] from by cases p0 <;> rfl]
  show AT z x 6 (wX z σ) rI (eqA ad) 0 0 0 0 ad 0 [(0, .ref 54), (1, vr p0)] [] τ (Tp_readSum τ p0)
  unfold Tp_readSum
  refine at_aload_n (j := 0) hC rfl rfl dX7_readSum_0 ?_
  refine at_iconst hC ic_0 dX7_readSum_1 ?_
  refine pf_X7_96 hC dX7_readSum_2 ?_
  refine at_iconst hC ic_0 dX7_readSum_5 ?_
  refine at_istore_n (lv' := [(2, .int 0), (0, .ref 54), (1, vr p0)]) hC rfl dX7_readSum_6 (by decide) (by cases p0 <;> rfl) ?_
  refine at_iconst hC ic_1 dX7_readSum_7 ?_
  refine at_istore_n (lv' := [(3, .int 1), (2, .int 0), (0, .ref 54), (1, vr p0)]) hC rfl dX7_readSum_8 (by decide) rfl ?_
  refine at_iconst hC ic_0 dX7_readSum_9 ?_
  refine at_istore (lv' := [(4, .int 0), (3, .int 1), (2, .int 0), (0, .ref 54), (1, vr p0)]) hC dX7_readSum_10 (by decide) rfl ?_
  refine at_drop (lv' := [(0, .ref 54), (1, vr p0), (2, .int 0), (3, .int 1), (4, .int 0)]) [3, 4, 2, 1, 0] rfl ?_
  exact t_Tp_readSum_L12 hC hR 100000 (xI τ 704 0) p0 0 1 0
theorem dX7_compareCode_0 : decode cX7_compareCode 0 = .ok (.iload_n 0, 1) := by decide +kernel
theorem dX7_compareCode_1 : decode cX7_compareCode 1 = .ok (.bipush 60, 2) := by decide +kernel
theorem dX7_compareCode_3 : decode cX7_compareCode 3 = .ok (.if_icmp .ne 6, 3) := by decide +kernel
theorem dX7_compareCode_6 : decode cX7_compareCode 6 = .ok (.bipush (-14), 2) := by decide +kernel
theorem dX7_compareCode_8 : decode cX7_compareCode 8 = .ok (.ireturn, 1) := by decide +kernel
theorem dX7_compareCode_9 : decode cX7_compareCode 9 = .ok (.iload_n 0, 1) := by decide +kernel
theorem dX7_compareCode_10 : decode cX7_compareCode 10 = .ok (.bipush 61, 2) := by decide +kernel
theorem dX7_compareCode_12 : decode cX7_compareCode 12 = .ok (.if_icmp .ne 6, 3) := by decide +kernel
theorem dX7_compareCode_15 : decode cX7_compareCode 15 = .ok (.bipush (-15), 2) := by decide +kernel
theorem dX7_compareCode_17 : decode cX7_compareCode 17 = .ok (.ireturn, 1) := by decide +kernel
theorem dX7_compareCode_18 : decode cX7_compareCode 18 = .ok (.iload_n 0, 1) := by decide +kernel
theorem dX7_compareCode_19 : decode cX7_compareCode 19 = .ok (.bipush 62, 2) := by decide +kernel
theorem dX7_compareCode_21 : decode cX7_compareCode 21 = .ok (.if_icmp .ne 8, 3) := by decide +kernel
theorem dX7_compareCode_24 : decode cX7_compareCode 24 = .ok (.bipush (-16), 2) := by decide +kernel
theorem dX7_compareCode_26 : decode cX7_compareCode 26 = .ok (.goto 4, 3) := by decide +kernel
theorem dX7_compareCode_29 : decode cX7_compareCode 29 = .ok (.iconst (-1), 1) := by decide +kernel
theorem dX7_compareCode_30 : decode cX7_compareCode 30 = .ok (.ireturn, 1) := by decide +kernel
set_option maxRecDepth 100000 in
theorem c_Tp_compareCode (τ : XS) (p0 : Int32) : Ct z (wX z σ) rI eqA yX7_compareCode cX7_compareCode 1 (some .int) 1 0 0 [.int p0] τ ((Tp_compareCode τ p0).map fun r => (r, τ)) := by
  refine Ct.of (by decide) (Nat.le_of_ble_eq_true rfl) (fun ad x hC hR _ => ?_)
  show AT z x 1 (wX z σ) rI (eqA ad) 0 0 0 0 ad 0 [(0, .int p0)] [] τ ((Tp_compareCode τ p0).map fun r => (r, τ))
  unfold Tp_compareCode
  refine at_iload_n (j := 0) hC rfl rfl dX7_compareCode_0 ?_
  refine at_bipush hC bi_60 dX7_compareCode_1 ?_
  refine ap_icmp_ne (tgt := 9) hC dX7_compareCode_3 rfl (fun _ => ?_) (fun _ => ?_)
  · refine at_iload_n (j := 0) hC rfl rfl dX7_compareCode_9 ?_
    refine at_bipush hC bi_61 dX7_compareCode_10 ?_
    refine ap_icmp_ne (tgt := 18) hC dX7_compareCode_12 rfl (fun _ => ?_) (fun _ => ?_)
    · refine at_iload_n (j := 0) hC rfl rfl dX7_compareCode_18 ?_
      refine at_bipush hC bi_62 dX7_compareCode_19 ?_
      refine ap_icmp_ne (tgt := 29) hC dX7_compareCode_21 rfl (fun _ => ?_) (fun _ => ?_)
      · refine at_iconst hC ic_m1 dX7_compareCode_29 ?_
        exact at_iret (F := eqA ad) (ra := rI) hC dX7_compareCode_30 rfl (Nat.le_refl 0) (Nat.le_refl 0) rfl
      · refine at_bipush hC bi_m16 dX7_compareCode_24 ?_
        refine at_goto (tgt := 30) hC dX7_compareCode_26 rfl ?_
        exact at_iret (F := eqA ad) (ra := rI) hC dX7_compareCode_30 rfl (Nat.le_refl 0) (Nat.le_refl 0) rfl
    · refine at_bipush hC bi_m15 dX7_compareCode_15 ?_
      exact at_iret (F := eqA ad) (ra := rI) hC dX7_compareCode_17 rfl (Nat.le_refl 0) (Nat.le_refl 0) rfl
  · refine at_bipush hC bi_m14 dX7_compareCode_6 ?_
    exact at_iret (F := eqA ad) (ra := rI) hC dX7_compareCode_8 rfl (Nat.le_refl 0) (Nat.le_refl 0) rfl
theorem dX7_readClause_0 : decode cX7_readClause 0 = .ok (.aload_n 1, 1) := by decide +kernel
theorem dX7_readClause_1 : decode cX7_readClause 1 = .ok (.getfield 57, 3) := by decide +kernel
theorem dX7_readClause_4 : decode cX7_readClause 4 = .ok (.istore_n 2, 1) := by decide +kernel
theorem dX7_readClause_5 : decode cX7_readClause 5 = .ok (.iload_n 2, 1) := by decide +kernel
theorem dX7_readClause_6 : decode cX7_readClause 6 = .ok (.bipush 8, 2) := by decide +kernel
theorem dX7_readClause_8 : decode cX7_readClause 8 = .ok (.if_icmp .lt 5, 3) := by decide +kernel
theorem dX7_readClause_11 : decode cX7_readClause 11 = .ok (.iconst 0, 1) := by decide +kernel
theorem dX7_readClause_12 : decode cX7_readClause 12 = .ok (.ireturn, 1) := by decide +kernel
theorem dX7_readClause_13 : decode cX7_readClause 13 = .ok (.aload_n 0, 1) := by decide +kernel
theorem dX7_readClause_14 : decode cX7_readClause 14 = .ok (.ldc 60, 2) := by decide +kernel
theorem dX7_readClause_16 : decode cX7_readClause 16 = .ok (.invokevirtual 62, 3) := by decide +kernel
theorem dX7_readClause_19 : decode cX7_readClause 19 = .ok (.istore_n 3, 1) := by decide +kernel
theorem dX7_readClause_20 : decode cX7_readClause 20 = .ok (.iload_n 3, 1) := by decide +kernel
theorem dX7_readClause_21 : decode cX7_readClause 21 = .ok (.ifCond .lt 12, 3) := by decide +kernel
theorem dX7_readClause_24 : decode cX7_readClause 24 = .ok (.aload_n 0, 1) := by decide +kernel
theorem dX7_readClause_25 : decode cX7_readClause 25 = .ok (.ldc 66, 2) := by decide +kernel
theorem dX7_readClause_27 : decode cX7_readClause 27 = .ok (.invokevirtual 36, 3) := by decide +kernel
theorem dX7_readClause_30 : decode cX7_readClause 30 = .ok (.ifCond .ne 5, 3) := by decide +kernel
theorem dX7_readClause_33 : decode cX7_readClause 33 = .ok (.iconst 0, 1) := by decide +kernel
theorem dX7_readClause_34 : decode cX7_readClause 34 = .ok (.ireturn, 1) := by decide +kernel
theorem dX7_readClause_35 : decode cX7_readClause 35 = .ok (.aload_n 1, 1) := by decide +kernel
theorem dX7_readClause_36 : decode cX7_readClause 36 = .ok (.getfield 68, 3) := by decide +kernel
theorem dX7_readClause_39 : decode cX7_readClause 39 = .ok (.iload_n 2, 1) := by decide +kernel
theorem dX7_readClause_40 : decode cX7_readClause 40 = .ok (.iload_n 3, 1) := by decide +kernel
theorem dX7_readClause_41 : decode cX7_readClause 41 = .ok (.iastore, 1) := by decide +kernel
theorem dX7_readClause_42 : decode cX7_readClause 42 = .ok (.aload_n 1, 1) := by decide +kernel
theorem dX7_readClause_43 : decode cX7_readClause 43 = .ok (.getfield 71, 3) := by decide +kernel
theorem dX7_readClause_46 : decode cX7_readClause 46 = .ok (.iload_n 2, 1) := by decide +kernel
theorem dX7_readClause_47 : decode cX7_readClause 47 = .ok (.aload_n 1, 1) := by decide +kernel
theorem dX7_readClause_48 : decode cX7_readClause 48 = .ok (.getfield 74, 3) := by decide +kernel
theorem dX7_readClause_51 : decode cX7_readClause 51 = .ok (.iastore, 1) := by decide +kernel
theorem dX7_readClause_52 : decode cX7_readClause 52 = .ok (.aload_n 0, 1) := by decide +kernel
theorem dX7_readClause_53 : decode cX7_readClause 53 = .ok (.aload_n 1, 1) := by decide +kernel
theorem dX7_readClause_54 : decode cX7_readClause 54 = .ok (.invokevirtual 75, 3) := by decide +kernel
theorem dX7_readClause_57 : decode cX7_readClause 57 = .ok (.ifCond .ne 5, 3) := by decide +kernel
theorem dX7_readClause_60 : decode cX7_readClause 60 = .ok (.iconst 0, 1) := by decide +kernel
theorem dX7_readClause_61 : decode cX7_readClause 61 = .ok (.ireturn, 1) := by decide +kernel
theorem dX7_readClause_62 : decode cX7_readClause 62 = .ok (.aload_n 1, 1) := by decide +kernel
theorem dX7_readClause_63 : decode cX7_readClause 63 = .ok (.getfield 78, 3) := by decide +kernel
theorem dX7_readClause_66 : decode cX7_readClause 66 = .ok (.iload_n 2, 1) := by decide +kernel
theorem dX7_readClause_67 : decode cX7_readClause 67 = .ok (.aload_n 1, 1) := by decide +kernel
theorem dX7_readClause_68 : decode cX7_readClause 68 = .ok (.getfield 74, 3) := by decide +kernel
theorem dX7_readClause_71 : decode cX7_readClause 71 = .ok (.iastore, 1) := by decide +kernel
theorem dX7_readClause_72 : decode cX7_readClause 72 = .ok (.iconst 0, 1) := by decide +kernel
theorem dX7_readClause_73 : decode cX7_readClause 73 = .ok (.istore 4, 2) := by decide +kernel
theorem dX7_readClause_75 : decode cX7_readClause 75 = .ok (.iload 4, 2) := by decide +kernel
theorem dX7_readClause_77 : decode cX7_readClause 77 = .ok (.sipush 200, 3) := by decide +kernel
theorem dX7_readClause_80 : decode cX7_readClause 80 = .ok (.if_icmp .ge 90, 3) := by decide +kernel
theorem dX7_readClause_83 : decode cX7_readClause 83 = .ok (.aload_n 0, 1) := by decide +kernel
theorem dX7_readClause_84 : decode cX7_readClause 84 = .ok (.invokevirtual 30, 3) := by decide +kernel
theorem dX7_readClause_87 : decode cX7_readClause 87 = .ok (.bipush 32, 2) := by decide +kernel
theorem dX7_readClause_89 : decode cX7_readClause 89 = .ok (.if_icmp .ne 81, 3) := by decide +kernel
theorem dX7_readClause_92 : decode cX7_readClause 92 = .ok (.aload_n 0, 1) := by decide +kernel
theorem dX7_readClause_93 : decode cX7_readClause 93 = .ok (.iload 4, 2) := by decide +kernel
theorem dX7_readClause_95 : decode cX7_readClause 95 = .ok (.ifCond .ne 8, 3) := by decide +kernel
theorem dX7_readClause_98 : decode cX7_readClause 98 = .ok (.ldc 81, 2) := by decide +kernel
theorem dX7_readClause_100 : decode cX7_readClause 100 = .ok (.goto 5, 3) := by decide +kernel
theorem dX7_readClause_103 : decode cX7_readClause 103 = .ok (.ldc 83, 2) := by decide +kernel
theorem dX7_readClause_105 : decode cX7_readClause 105 = .ok (.invokevirtual 36, 3) := by decide +kernel
theorem dX7_readClause_108 : decode cX7_readClause 108 = .ok (.ifCond .eq 11, 3) := by decide +kernel
theorem dX7_readClause_111 : decode cX7_readClause 111 = .ok (.aload_n 0, 1) := by decide +kernel
theorem dX7_readClause_112 : decode cX7_readClause 112 = .ok (.aload_n 1, 1) := by decide +kernel
theorem dX7_readClause_113 : decode cX7_readClause 113 = .ok (.invokevirtual 75, 3) := by decide +kernel
theorem dX7_readClause_116 : decode cX7_readClause 116 = .ok (.ifCond .ne 5, 3) := by decide +kernel
theorem dX7_readClause_119 : decode cX7_readClause 119 = .ok (.iconst 0, 1) := by decide +kernel
theorem dX7_readClause_120 : decode cX7_readClause 120 = .ok (.ireturn, 1) := by decide +kernel
theorem dX7_readClause_121 : decode cX7_readClause 121 = .ok (.aload_n 0, 1) := by decide +kernel
theorem dX7_readClause_122 : decode cX7_readClause 122 = .ok (.invokevirtual 30, 3) := by decide +kernel
theorem dX7_readClause_125 : decode cX7_readClause 125 = .ok (.invokestatic 85, 3) := by decide +kernel
theorem dX7_readClause_128 : decode cX7_readClause 128 = .ok (.istore 5, 2) := by decide +kernel
theorem dX7_readClause_130 : decode cX7_readClause 130 = .ok (.iload 5, 2) := by decide +kernel
theorem dX7_readClause_132 : decode cX7_readClause 132 = .ok (.iconst (-1), 1) := by decide +kernel
theorem dX7_readClause_133 : decode cX7_readClause 133 = .ok (.if_icmp .ne 5, 3) := by decide +kernel
theorem dX7_readClause_136 : decode cX7_readClause 136 = .ok (.iconst 0, 1) := by decide +kernel
theorem dX7_readClause_137 : decode cX7_readClause 137 = .ok (.ireturn, 1) := by decide +kernel
theorem dX7_readClause_138 : decode cX7_readClause 138 = .ok (.aload_n 0, 1) := by decide +kernel
theorem dX7_readClause_139 : decode cX7_readClause 139 = .ok (.dup, 1) := by decide +kernel
theorem dX7_readClause_140 : decode cX7_readClause 140 = .ok (.getfield 27, 3) := by decide +kernel
theorem dX7_readClause_143 : decode cX7_readClause 143 = .ok (.iconst 1, 1) := by decide +kernel
theorem dX7_readClause_144 : decode cX7_readClause 144 = .ok (.iadd, 1) := by decide +kernel
theorem dX7_readClause_145 : decode cX7_readClause 145 = .ok (.putfield 27, 3) := by decide +kernel
theorem dX7_readClause_148 : decode cX7_readClause 148 = .ok (.aload_n 0, 1) := by decide +kernel
theorem dX7_readClause_149 : decode cX7_readClause 149 = .ok (.aload_n 1, 1) := by decide +kernel
theorem dX7_readClause_150 : decode cX7_readClause 150 = .ok (.invokevirtual 75, 3) := by decide +kernel
theorem dX7_readClause_153 : decode cX7_readClause 153 = .ok (.ifCond .ne 5, 3) := by decide +kernel
theorem dX7_readClause_156 : decode cX7_readClause 156 = .ok (.iconst 0, 1) := by decide +kernel
theorem dX7_readClause_157 : decode cX7_readClause 157 = .ok (.ireturn, 1) := by decide +kernel
theorem dX7_readClause_158 : decode cX7_readClause 158 = .ok (.aload_n 1, 1) := by decide +kernel
theorem dX7_readClause_159 : decode cX7_readClause 159 = .ok (.iload 5, 2) := by decide +kernel
theorem dX7_readClause_161 : decode cX7_readClause 161 = .ok (.invokevirtual 89, 3) := by decide +kernel
theorem dX7_readClause_164 : decode cX7_readClause 164 = .ok (.iinc 4 1, 3) := by decide +kernel
theorem dX7_readClause_167 : decode cX7_readClause 167 = .ok (.goto (-92), 3) := by decide +kernel
theorem dX7_readClause_170 : decode cX7_readClause 170 = .ok (.aload_n 1, 1) := by decide +kernel
theorem dX7_readClause_171 : decode cX7_readClause 171 = .ok (.getfield 93, 3) := by decide +kernel
theorem dX7_readClause_174 : decode cX7_readClause 174 = .ok (.iload_n 2, 1) := by decide +kernel
theorem dX7_readClause_175 : decode cX7_readClause 175 = .ok (.aload_n 1, 1) := by decide +kernel
theorem dX7_readClause_176 : decode cX7_readClause 176 = .ok (.getfield 74, 3) := by decide +kernel
theorem dX7_readClause_179 : decode cX7_readClause 179 = .ok (.iastore, 1) := by decide +kernel
theorem dX7_readClause_180 : decode cX7_readClause 180 = .ok (.aload_n 1, 1) := by decide +kernel
theorem dX7_readClause_181 : decode cX7_readClause 181 = .ok (.dup, 1) := by decide +kernel
theorem dX7_readClause_182 : decode cX7_readClause 182 = .ok (.getfield 57, 3) := by decide +kernel
theorem dX7_readClause_185 : decode cX7_readClause 185 = .ok (.iconst 1, 1) := by decide +kernel
theorem dX7_readClause_186 : decode cX7_readClause 186 = .ok (.iadd, 1) := by decide +kernel
theorem dX7_readClause_187 : decode cX7_readClause 187 = .ok (.putfield 57, 3) := by decide +kernel
theorem dX7_readClause_190 : decode cX7_readClause 190 = .ok (.iconst 1, 1) := by decide +kernel
theorem dX7_readClause_191 : decode cX7_readClause 191 = .ok (.ireturn, 1) := by decide +kernel
set_option maxRecDepth 100000 in
theorem t_Tp_readClause_J170 (hC : CX z ad x cX7_readClause RX7 6 (some .boolean)) (hR : x.2.2.1 = rmk 9 0 0) (τ : XS) (a1 : Option Nat) (a2 : Int32) : AT z x 6 (wX z σ) rI (eqA ad) 0 0 0 0 ad 170 [(1, vr a1), (2, .int a2)] [] τ (Tp_readClause_J170 τ a1 a2) := by
  unfold Tp_readClause_J170
  refine at_aload_nV (j := 0) hC rfl rfl dX7_readClause_170 ?_
  refine at_oA (pre := []) rfl (fun a_7 _ hg7 => ?_)
  refine at_get (v := .ref (80 + 7 * a_7 + 4)) (C := RX0) (T := TX0) (N := 10) (ci := 0) (j := 6) hC (80 + 7 * a_7) dX7_readClause_171 inX0 (cla hg7) rfl (by decide) lf_X7_93 rfl rfl ?_
  refine at_iload_n (j := 1) hC rfl rfl dX7_readClause_174 ?_
  refine at_aload_nV (j := 0) hC rfl rfl dX7_readClause_175 ?_
  refine at_oA (pre := []) rfl (fun a_8 _ hg8 => ?_)
  refine at_get (v := .int (tF τ a_8 9)) (C := RX0) (T := TX0) (N := 10) (ci := 0) (j := 9) hC (80 + 7 * a_8) dX7_readClause_176 inX0 (cla hg8) rfl (by decide) lf_X7_74 rfl rfl ?_
  refine at_iast hC (80 + 7 * a_7 + 4) dX7_readClause_179 (cla_4 hg7) (sta_4 hg7) ?_
  refine at_aload_nV (j := 0) hC rfl rfl dX7_readClause_180 ?_
  refine at_dup hC (by cases a1 <;> rfl) dX7_readClause_181 ?_
  refine at_oA (pre := []) rfl (fun a_9 _ hg9 => ?_)
  refine at_get (v := .int (tF (xTA τ a_7 6 (upd (tA τ a_7 6) a2.toNatClampNeg (tF τ a_8 9))) a_9 2)) (C := RX0) (T := TX0) (N := 10) (ci := 0) (j := 2) hC (80 + 7 * a_9) dX7_readClause_182 inX0 (cla hg9) rfl (by decide) lf_X7_57 rfl rfl ?_
  refine at_iconst hC ic_1 dX7_readClause_185 ?_
  refine at_iadd hC dX7_readClause_186 ?_
  refine at_oA (pre := [.int ((tF (xTA τ a_7 6 (upd (tA τ a_7 6) a2.toNatClampNeg (tF τ a_8 9))) a_9 2) + 1)]) rfl (fun a_10 _ hg10 => ?_)
  show AT z x 6 (wX z σ) rI (eqA ad) 0 0 0 0 ad 187 [(1, vr a1), (2, .int a2)] [.int ((tF (xTA τ a_7 6 (upd (tA τ a_7 6) a2.toNatClampNeg (tF τ a_8 9))) a_9 2) + 1), .ref (80 + 7 * a_10)] (xTA τ a_7 6 (upd (tA τ a_7 6) a2.toNatClampNeg (tF τ a_8 9))) _
  refine at_put (C := RX0) (T := TX0) (N := 10) (ci := 0) (j := 2) (ty := .int) (ty0 := tyX0) hC (80 + 7 * a_10) dX7_readClause_187 inX0 tyX0_ok nmX0 (cla hg10) rfl (by decide) lf_X7_57 rfl rfl (by decide +kernel) rfl rfl (Nat.le_of_ble_eq_true rfl) (sta2 hg10) ?_
  refine at_iconst hC ic_1 dX7_readClause_190 ?_
  exact at_zret (F := eqA ad) (ra := rI) hC nb1 dX7_readClause_191 rfl (Nat.le_refl 0) (Nat.le_refl 0) rfl
set_option maxRecDepth 100000 in
theorem t_Tp_readClause_J105 (hC : CX z ad x cX7_readClause RX7 6 (some .boolean)) (hR : x.2.2.1 = rmk 9 0 0) (k_75 : XS → Option Nat → Int32 → Int32 → Option (Int32 × XS)) (hk_75 : ∀ (τ : XS) (a1 : Option Nat) (a2 : Int32) (a4 : Int32), AT z x 6 (wX z σ) rI (eqA ad) 0 0 0 0 ad 75 [(0, .ref 54), (1, vr a1), (2, .int a2), (4, .int a4)] [] τ (k_75 τ a1 a2 a4)) (τ : XS) (a1 : Option Nat) (a2 : Int32) (a4 : Int32) (s0 : Nat) : AT z x 6 (wX z σ) rI (eqA ad) 0 0 0 0 ad 105 [(0, .ref 54), (1, vr a1), (2, .int a2), (4, .int a4)] [.ref s0, .ref 54] τ (Tp_readClause_J105 k_75 τ a1 a2 a4 s0) := by
  unfold Tp_readClause_J105
  refine at_callVI hC hR lk_X7_36 (c_Tp_readAll τ s0) dX7_readClause_105 recX7 rfl rfl ⟨by decide, by decide⟩ (Nat.le_of_ble_eq_true rfl) ⟨Nat.le_refl 0, Nat.le_refl 0⟩ (fun r5 r5s _ => ?_)
  refine at_if_eq (tgt := 119) hC dX7_readClause_108 rfl (fun _ => ?_) (fun _ => ?_)
  · refine at_iconst hC ic_0 dX7_readClause_119 ?_
    exact at_zret (F := eqA ad) (ra := rI) hC nb0 dX7_readClause_120 rfl (Nat.le_refl 0) (Nat.le_refl 0) rfl
  · refine at_aload_n (j := 0) hC rfl rfl dX7_readClause_111 ?_
    refine at_aload_nV (j := 1) hC rfl rfl dX7_readClause_112 ?_
    refine at_callVI hC hR lk_X7_75 (c_Tp_readSum r5s a1) dX7_readClause_113 recX7 rfl rfl ⟨by decide, by decide⟩ (Nat.le_of_ble_eq_true rfl) ⟨Nat.le_refl 0, Nat.le_refl 0⟩ (fun r6 r6s _ => ?_)
    refine at_if_ne (tgt := 121) hC dX7_readClause_116 rfl (fun _ => ?_) (fun _ => ?_)
    · refine at_aload_n (j := 0) hC rfl rfl dX7_readClause_121 ?_
      refine at_callVpI hC hR lk_X7_30 (c_Tp_next r6s) dX7_readClause_122 recX7 rfl rfl ⟨by decide, by decide⟩ (Nat.le_of_ble_eq_true rfl) ⟨Nat.le_refl 0, Nat.le_refl 0⟩ (fun r7 _ => ?_)
      refine at_callSpI hC hR lk_X7_85 (c_Tp_compareCode r6s r7) dX7_readClause_125 rfl rfl ⟨by decide, by decide⟩ (Nat.le_of_ble_eq_true rfl) ⟨Nat.le_refl 0, Nat.le_refl 0⟩ (fun r8 _ => ?_)
      refine at_istore (lv' := [(5, .int r8), (0, .ref 54), (1, vr a1), (2, .int a2), (4, .int a4)]) hC dX7_readClause_128 (by decide) rfl ?_
      refine at_iload (j := 0) hC rfl dX7_readClause_130 ?_
      refine at_iconst hC ic_m1 dX7_readClause_132 ?_
      refine at_icmp_ne (tgt := 138) hC dX7_readClause_133 rfl (fun _ => ?_) (fun _ => ?_)
      · refine at_aload_n (j := 1) hC rfl rfl dX7_readClause_138 ?_
        refine at_dup hC rfl dX7_readClause_139 ?_
        refine gf_X7_27 hC dX7_readClause_140 ?_
        refine at_iconst hC ic_1 dX7_readClause_143 ?_
        refine at_iadd hC dX7_readClause_144 ?_
        refine pf_X7_27 hC dX7_readClause_145 ?_
        refine at_aload_n (j := 1) hC rfl rfl dX7_readClause_148 ?_
        refine at_aload_nV (j := 2) hC rfl rfl dX7_readClause_149 ?_
        refine at_callVI hC hR lk_X7_75 (c_Tp_readSum (xI r6s 702 ((r6s.1 702) + 1)) a1) dX7_readClause_150 recX7 rfl rfl ⟨by decide, by decide⟩ (Nat.le_of_ble_eq_true rfl) ⟨Nat.le_refl 0, Nat.le_refl 0⟩ (fun r9 r9s _ => ?_)
        refine at_if_ne (tgt := 158) hC dX7_readClause_153 rfl (fun _ => ?_) (fun _ => ?_)
        · refine at_aload_nV (j := 2) hC rfl rfl dX7_readClause_158 ?_
          refine at_iload (j := 0) hC rfl dX7_readClause_159 ?_
          refine at_oA (pre := [.int r8]) rfl (fun a_11 _ hg11 => ?_)
          show AT z x 6 (wX z σ) rI (eqA ad) 0 0 0 0 ad 161 [(5, .int r8), (0, .ref 54), (1, vr a1), (2, .int a2), (4, .int a4)] [.int r8, .ref (80 + 7 * a_11)] r9s _
          refine at_callVU hC hR lk_X7_89 (c_Ac_emit r9s a_11 r8) dX7_readClause_161 ⟨0, _, _, rfl, rfl, cla hg11⟩ rfl rfl ⟨by decide, by decide⟩ (Nat.le_of_ble_eq_true rfl) ⟨Nat.le_refl 0, Nat.le_refl 0⟩ (fun r10 r10s _ => ?_)
          refine at_iinc (j := 4) (v := a4 + 1) (lv' := [(4, .int (a4 + 1)), (5, .int r8), (0, .ref 54), (1, vr a1), (2, .int a2)]) hC dX7_readClause_164 rfl rfl (by decide) rfl ?_
          refine at_goto (tgt := 75) hC dX7_readClause_167 rfl ?_
          refine at_drop (lv' := [(0, .ref 54), (1, vr a1), (2, .int a2), (4, .int (a4 + 1))]) [2, 3, 4, 0] rfl ?_
          exact hk_75 r10s a1 a2 (a4 + 1)
        · refine at_iconst hC ic_0 dX7_readClause_156 ?_
          exact at_zret (F := eqA ad) (ra := rI) hC nb0 dX7_readClause_157 rfl (Nat.le_refl 0) (Nat.le_refl 0) rfl
      · refine at_iconst hC ic_0 dX7_readClause_136 ?_
        exact at_zret (F := eqA ad) (ra := rI) hC nb0 dX7_readClause_137 rfl (Nat.le_refl 0) (Nat.le_refl 0) rfl
    · refine at_iconst hC ic_0 dX7_readClause_119 ?_
      exact at_zret (F := eqA ad) (ra := rI) hC nb0 dX7_readClause_120 rfl (Nat.le_refl 0) (Nat.le_refl 0) rfl
set_option maxRecDepth 100000 in
theorem t_Tp_readClause_L75 (hC : CX z ad x cX7_readClause RX7 6 (some .boolean)) (hR : x.2.2.1 = rmk 9 0 0) (n : Nat) (τ : XS) (a1 : Option Nat) (a2 : Int32) (a4 : Int32) : AT z x 6 (wX z σ) rI (eqA ad) 0 0 0 0 ad 75 [(0, .ref 54), (1, vr a1), (2, .int a2), (4, .int a4)] [] τ (Tp_readClause_L75 n τ a1 a2 a4) := by
  revert τ a1 a2 a4
  show ∀ (τ : XS) (a1 : Option Nat) (a2 : Int32) (a4 : Int32), AT z x 6 (wX z σ) rI (eqA ad) 0 0 0 0 ad 75 [(0, .ref 54), (1, vr a1), (2, .int a2), (4, .int a4)] [] τ (Tp_readClause_L75_r n τ a1 a2 a4)
  induction n with
  | zero => intro τ a1 a2 a4; exact at_none
  | succ n hk_75 =>
    intro τ a1 a2 a4
    unfold Tp_readClause_L75_r
    refine at_iload (j := 3) hC rfl dX7_readClause_75 ?_
    refine at_sipush hC si_200 dX7_readClause_77 ?_
    refine at_icmp_ge (tgt := 170) hC dX7_readClause_80 rfl (fun _ => ?_) (fun _ => ?_)
    · refine at_drop (lv' := [(1, vr a1), (2, .int a2)]) [1, 2] rfl ?_
      exact t_Tp_readClause_J170 hC hR τ a1 a2
    · refine at_aload_n (j := 0) hC rfl rfl dX7_readClause_83 ?_
      refine at_callVpI hC hR lk_X7_30 (c_Tp_next τ) dX7_readClause_84 recX7 rfl rfl ⟨by decide, by decide⟩ (Nat.le_of_ble_eq_true rfl) ⟨Nat.le_refl 0, Nat.le_refl 0⟩ (fun r4 _ => ?_)
      refine at_bipush hC bi_32 dX7_readClause_87 ?_
      refine at_icmp_ne (tgt := 170) hC dX7_readClause_89 rfl (fun _ => ?_) (fun _ => ?_)
      · refine at_drop (lv' := [(1, vr a1), (2, .int a2)]) [1, 2] rfl ?_
        exact t_Tp_readClause_J170 hC hR τ a1 a2
      · refine at_aload_n (j := 0) hC rfl rfl dX7_readClause_92 ?_
        refine at_iload (j := 3) hC rfl dX7_readClause_93 ?_
        refine at_if_ne (tgt := 103) hC dX7_readClause_95 rfl (fun _ => ?_) (fun _ => ?_)
        · refine at_ldcS (m := 1000005) hC 5 rfl rfl dX7_readClause_103 ?_
          exact t_Tp_readClause_J105 hC hR (Tp_readClause_L75_r n) hk_75 τ a1 a2 a4 1000005
        · refine at_ldcS (m := 1000004) hC 4 rfl rfl dX7_readClause_98 ?_
          refine at_goto (tgt := 105) hC dX7_readClause_100 rfl ?_
          exact t_Tp_readClause_J105 hC hR (Tp_readClause_L75_r n) hk_75 τ a1 a2 a4 1000004
set_option maxRecDepth 100000 in
theorem c_Tp_readClause (τ : XS) (p0 : Option Nat) : Ct z (wX z σ) rI eqA yX7_readClause cX7_readClause 6 (some .boolean) 9 0 0 [.ref 54, vr p0] τ (Tp_readClause τ p0) := by
  refine Ct.of (by decide) (by cases p0 <;> exact Nat.le_of_ble_eq_true rfl) (fun ad x hC hR _ => ?_)
  rw [show lv_args 0 [.ref 54, vr p0] = [(0, .ref 54), (1, vr p0)] from by cases p0 <;> rfl]
  show AT z x 6 (wX z σ) rI (eqA ad) 0 0 0 0 ad 0 [(0, .ref 54), (1, vr p0)] [] τ (Tp_readClause τ p0)
  unfold Tp_readClause
  refine at_aload_nV (j := 1) hC rfl rfl dX7_readClause_0 ?_
  refine at_oA (pre := []) rfl (fun a_1 _ hg1 => ?_)
  refine at_get (v := .int (tF τ a_1 2)) (C := RX0) (T := TX0) (N := 10) (ci := 0) (j := 2) hC (80 + 7 * a_1) dX7_readClause_1 inX0 (cla hg1) rfl (by decide) lf_X7_57 rfl rfl ?_
  refine at_istore_n (lv' := [(2, .int (tF τ a_1 2)), (0, .ref 54), (1, vr p0)]) hC rfl dX7_readClause_4 (by decide) (by cases p0 <;> rfl) ?_
  refine at_iload_n (j := 0) hC rfl rfl dX7_readClause_5 ?_
  refine at_bipush hC bi_8 dX7_readClause_6 ?_
  refine at_icmp_lt (tgt := 13) hC dX7_readClause_8 rfl (fun _ => ?_) (fun _ => ?_)
  · refine at_aload_n (j := 1) hC rfl rfl dX7_readClause_13 ?_
    refine at_ldcS (m := 1000001) hC 1 rfl rfl dX7_readClause_14 ?_
    refine at_callVI hC hR lk_X7_62 (c_Tp_readWord τ 1000001) dX7_readClause_16 recX7 rfl rfl ⟨by decide, by decide⟩ (Nat.le_of_ble_eq_true rfl) ⟨Nat.le_refl 0, Nat.le_refl 0⟩ (fun r1 r1s _ => ?_)
    refine at_istore_n (lv' := [(3, .int r1), (2, .int (tF τ a_1 2)), (0, .ref 54), (1, vr p0)]) hC rfl dX7_readClause_19 (by decide) rfl ?_
    refine at_iload_n (j := 0) hC rfl rfl dX7_readClause_20 ?_
    refine at_if_lt (tgt := 33) hC dX7_readClause_21 rfl (fun _ => ?_) (fun _ => ?_)
    · refine at_iconst hC ic_0 dX7_readClause_33 ?_
      exact at_zret (F := eqA ad) (ra := rI) hC nb0 dX7_readClause_34 rfl (Nat.le_refl 0) (Nat.le_refl 0) rfl
    · refine at_aload_n (j := 2) hC rfl rfl dX7_readClause_24 ?_
      refine at_ldcS (m := 1000002) hC 2 rfl rfl dX7_readClause_25 ?_
      refine at_callVI hC hR lk_X7_36 (c_Tp_readAll r1s 1000002) dX7_readClause_27 recX7 rfl rfl ⟨by decide, by decide⟩ (Nat.le_of_ble_eq_true rfl) ⟨Nat.le_refl 0, Nat.le_refl 0⟩ (fun r2 r2s _ => ?_)
      refine at_if_ne (tgt := 35) hC dX7_readClause_30 rfl (fun _ => ?_) (fun _ => ?_)
      · refine at_aload_nV (j := 3) hC rfl rfl dX7_readClause_35 ?_
        refine at_oA (pre := []) rfl (fun a_2 _ hg2 => ?_)
        refine at_get (v := .ref (80 + 7 * a_2 + 1)) (C := RX0) (T := TX0) (N := 10) (ci := 0) (j := 3) hC (80 + 7 * a_2) dX7_readClause_36 inX0 (cla hg2) rfl (by decide) lf_X7_68 rfl rfl ?_
        refine at_iload_n (j := 1) hC rfl rfl dX7_readClause_39 ?_
        refine at_iload_n (j := 0) hC rfl rfl dX7_readClause_40 ?_
        refine at_iast hC (80 + 7 * a_2 + 1) dX7_readClause_41 (cla_1 hg2) (sta_1 hg2) ?_
        refine at_aload_nV (j := 3) hC rfl rfl dX7_readClause_42 ?_
        refine at_oA (pre := []) rfl (fun a_3 _ hg3 => ?_)
        refine at_get (v := .ref (80 + 7 * a_3 + 2)) (C := RX0) (T := TX0) (N := 10) (ci := 0) (j := 4) hC (80 + 7 * a_3) dX7_readClause_43 inX0 (cla hg3) rfl (by decide) lf_X7_71 rfl rfl ?_
        refine at_iload_n (j := 1) hC rfl rfl dX7_readClause_46 ?_
        refine at_aload_nV (j := 3) hC rfl rfl dX7_readClause_47 ?_
        refine at_oA (pre := []) rfl (fun a_4 _ hg4 => ?_)
        refine at_get (v := .int (tF (xTA r2s a_2 3 (upd (tA r2s a_2 3) (tF τ a_1 2).toNatClampNeg r1)) a_4 9)) (C := RX0) (T := TX0) (N := 10) (ci := 0) (j := 9) hC (80 + 7 * a_4) dX7_readClause_48 inX0 (cla hg4) rfl (by decide) lf_X7_74 rfl rfl ?_
        refine at_iast hC (80 + 7 * a_3 + 2) dX7_readClause_51 (cla_2 hg3) (sta_2 hg3) ?_
        refine at_aload_n (j := 2) hC rfl rfl dX7_readClause_52 ?_
        refine at_aload_nV (j := 3) hC rfl rfl dX7_readClause_53 ?_
        refine at_callVI hC hR lk_X7_75 (c_Tp_readSum (xTA (xTA r2s a_2 3 (upd (tA r2s a_2 3) (tF τ a_1 2).toNatClampNeg r1)) a_3 4 (upd (tA (xTA r2s a_2 3 (upd (tA r2s a_2 3) (tF τ a_1 2).toNatClampNeg r1)) a_3 4) (tF τ a_1 2).toNatClampNeg (tF (xTA r2s a_2 3 (upd (tA r2s a_2 3) (tF τ a_1 2).toNatClampNeg r1)) a_4 9))) p0) dX7_readClause_54 recX7 rfl rfl ⟨by decide, by decide⟩ (Nat.le_of_ble_eq_true rfl) ⟨Nat.le_refl 0, Nat.le_refl 0⟩ (fun r3 r3s _ => ?_)
        refine at_if_ne (tgt := 62) hC dX7_readClause_57 rfl (fun _ => ?_) (fun _ => ?_)
        · refine at_aload_nV (j := 3) hC rfl rfl dX7_readClause_62 ?_
          refine at_oA (pre := []) rfl (fun a_5 _ hg5 => ?_)
          refine at_get (v := .ref (80 + 7 * a_5 + 3)) (C := RX0) (T := TX0) (N := 10) (ci := 0) (j := 5) hC (80 + 7 * a_5) dX7_readClause_63 inX0 (cla hg5) rfl (by decide) lf_X7_78 rfl rfl ?_
          refine at_iload_n (j := 1) hC rfl rfl dX7_readClause_66 ?_
          refine at_aload_nV (j := 3) hC rfl rfl dX7_readClause_67 ?_
          refine at_oA (pre := []) rfl (fun a_6 _ hg6 => ?_)
          refine at_get (v := .int (tF r3s a_6 9)) (C := RX0) (T := TX0) (N := 10) (ci := 0) (j := 9) hC (80 + 7 * a_6) dX7_readClause_68 inX0 (cla hg6) rfl (by decide) lf_X7_74 rfl rfl ?_
          refine at_iast hC (80 + 7 * a_5 + 3) dX7_readClause_71 (cla_3 hg5) (sta_3 hg5) ?_
          refine at_iconst hC ic_0 dX7_readClause_72 ?_
          refine at_istore (lv' := [(4, .int 0), (3, .int r1), (2, .int (tF τ a_1 2)), (0, .ref 54), (1, vr p0)]) hC dX7_readClause_73 (by decide) rfl ?_
          refine at_drop (lv' := [(0, .ref 54), (1, vr p0), (2, .int (tF τ a_1 2)), (4, .int 0)]) [3, 4, 2, 0] rfl ?_
          exact t_Tp_readClause_L75 hC hR 100000 (xTA r3s a_5 5 (upd (tA r3s a_5 5) (tF τ a_1 2).toNatClampNeg (tF r3s a_6 9))) p0 (tF τ a_1 2) 0
        · refine at_iconst hC ic_0 dX7_readClause_60 ?_
          exact at_zret (F := eqA ad) (ra := rI) hC nb0 dX7_readClause_61 rfl (Nat.le_refl 0) (Nat.le_refl 0) rfl
      · refine at_iconst hC ic_0 dX7_readClause_33 ?_
        exact at_zret (F := eqA ad) (ra := rI) hC nb0 dX7_readClause_34 rfl (Nat.le_refl 0) (Nat.le_refl 0) rfl
  · refine at_iconst hC ic_0 dX7_readClause_11 ?_
    exact at_zret (F := eqA ad) (ra := rI) hC nb0 dX7_readClause_12 rfl (Nat.le_refl 0) (Nat.le_refl 0) rfl
end G
