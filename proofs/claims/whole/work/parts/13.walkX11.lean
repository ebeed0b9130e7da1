section G
variable {z : ZZ} {x : XX} {ad : Nat → Nat} {σ : MS}
theorem dX7_readAct_0 : decode cX7_readAct 0 = .ok (.aload_n 1, 1) := by decide +kernel
theorem dX7_readAct_1 : decode cX7_readAct 1 = .ok (.invokevirtual 22, 3) := by decide +kernel
theorem dX7_readAct_4 : decode cX7_readAct 4 = .ok (.aload_n 0, 1) := by decide +kernel
theorem dX7_readAct_5 : decode cX7_readAct 5 = .ok (.iconst 0, 1) := by decide +kernel
theorem dX7_readAct_6 : decode cX7_readAct 6 = .ok (.putfield 27, 3) := by decide +kernel
theorem dX7_readAct_9 : decode cX7_readAct 9 = .ok (.aload_n 0, 1) := by decide +kernel
theorem dX7_readAct_10 : decode cX7_readAct 10 = .ok (.invokevirtual 30, 3) := by decide +kernel
theorem dX7_readAct_13 : decode cX7_readAct 13 = .ok (.bipush 98, 2) := by decide +kernel
theorem dX7_readAct_15 : decode cX7_readAct 15 = .ok (.if_icmp .ne 22, 3) := by decide +kernel
theorem dX7_readAct_18 : decode cX7_readAct 18 = .ok (.aload_n 0, 1) := by decide +kernel
theorem dX7_readAct_19 : decode cX7_readAct 19 = .ok (.ldc 34, 2) := by decide +kernel
theorem dX7_readAct_21 : decode cX7_readAct 21 = .ok (.invokevirtual 36, 3) := by decide +kernel
theorem dX7_readAct_24 : decode cX7_readAct 24 = .ok (.ifCond .ne 8, 3) := by decide +kernel
theorem dX7_readAct_27 : decode cX7_readAct 27 = .ok (.aload_n 0, 1) := by decide +kernel
theorem dX7_readAct_28 : decode cX7_readAct 28 = .ok (.getfield 27, 3) := by decide +kernel
theorem dX7_readAct_31 : decode cX7_readAct 31 = .ok (.ireturn, 1) := by decide +kernel
theorem dX7_readAct_32 : decode cX7_readAct 32 = .ok (.aload_n 1, 1) := by decide +kernel
theorem dX7_readAct_33 : decode cX7_readAct 33 = .ok (.iconst 1, 1) := by decide +kernel
theorem dX7_readAct_34 : decode cX7_readAct 34 = .ok (.putfield 40, 3) := by decide +kernel
theorem dX7_readAct_37 : decode cX7_readAct 37 = .ok (.iconst 0, 1) := by decide +kernel
theorem dX7_readAct_38 : decode cX7_readAct 38 = .ok (.istore_n 2, 1) := by decide +kernel
theorem dX7_readAct_39 : decode cX7_readAct 39 = .ok (.iload_n 2, 1) := by decide +kernel
theorem dX7_readAct_40 : decode cX7_readAct 40 = .ok (.bipush 8, 2) := by decide +kernel
theorem dX7_readAct_42 : decode cX7_readAct 42 = .ok (.if_icmp .ge 65, 3) := by decide +kernel
theorem dX7_readAct_45 : decode cX7_readAct 45 = .ok (.aload_n 0, 1) := by decide +kernel
theorem dX7_readAct_46 : decode cX7_readAct 46 = .ok (.aload_n 1, 1) := by decide +kernel
theorem dX7_readAct_47 : decode cX7_readAct 47 = .ok (.invokevirtual 44, 3) := by decide +kernel
theorem dX7_readAct_50 : decode cX7_readAct 50 = .ok (.ifCond .ne 8, 3) := by decide +kernel
theorem dX7_readAct_53 : decode cX7_readAct 53 = .ok (.aload_n 0, 1) := by decide +kernel
theorem dX7_readAct_54 : decode cX7_readAct 54 = .ok (.getfield 27, 3) := by decide +kernel
theorem dX7_readAct_57 : decode cX7_readAct 57 = .ok (.ireturn, 1) := by decide +kernel
theorem dX7_readAct_58 : decode cX7_readAct 58 = .ok (.aload_n 0, 1) := by decide +kernel
theorem dX7_readAct_59 : decode cX7_readAct 59 = .ok (.getfield 27, 3) := by decide +kernel
theorem dX7_readAct_62 : decode cX7_readAct 62 = .ok (.aload_n 0, 1) := by decide +kernel
theorem dX7_readAct_63 : decode cX7_readAct 63 = .ok (.getfield 18, 3) := by decide +kernel
theorem dX7_readAct_66 : decode cX7_readAct 66 = .ok (.if_icmp .lt 5, 3) := by decide +kernel
theorem dX7_readAct_69 : decode cX7_readAct 69 = .ok (.iconst (-1), 1) := by decide +kernel
theorem dX7_readAct_70 : decode cX7_readAct 70 = .ok (.ireturn, 1) := by decide +kernel
theorem dX7_readAct_71 : decode cX7_readAct 71 = .ok (.aload_n 0, 1) := by decide +kernel
theorem dX7_readAct_72 : decode cX7_readAct 72 = .ok (.invokevirtual 30, 3) := by decide +kernel
theorem dX7_readAct_75 : decode cX7_readAct 75 = .ok (.bipush 59, 2) := by decide +kernel
theorem dX7_readAct_77 : decode cX7_readAct 77 = .ok (.if_icmp .ne 9, 3) := by decide +kernel
theorem dX7_readAct_80 : decode cX7_readAct 80 = .ok (.iload_n 2, 1) := by decide +kernel
theorem dX7_readAct_81 : decode cX7_readAct 81 = .ok (.bipush 7, 2) := by decide +kernel
theorem dX7_readAct_83 : decode cX7_readAct 83 = .ok (.if_icmp .ne 8, 3) := by decide +kernel
theorem dX7_readAct_86 : decode cX7_readAct 86 = .ok (.aload_n 0, 1) := by decide +kernel
theorem dX7_readAct_87 : decode cX7_readAct 87 = .ok (.getfield 27, 3) := by decide +kernel
theorem dX7_readAct_90 : decode cX7_readAct 90 = .ok (.ireturn, 1) := by decide +kernel
theorem dX7_readAct_91 : decode cX7_readAct 91 = .ok (.aload_n 0, 1) := by decide +kernel
theorem dX7_readAct_92 : decode cX7_readAct 92 = .ok (.dup, 1) := by decide +kernel
theorem dX7_readAct_93 : decode cX7_readAct 93 = .ok (.getfield 27, 3) := by decide +kernel
theorem dX7_readAct_96 : decode cX7_readAct 96 = .ok (.iconst 1, 1) := by decide +kernel
theorem dX7_readAct_97 : decode cX7_readAct 97 = .ok (.iadd, 1) := by decide +kernel
theorem dX7_readAct_98 : decode cX7_readAct 98 = .ok (.putfield 27, 3) := by decide +kernel
theorem dX7_readAct_101 : decode cX7_readAct 101 = .ok (.iinc 2 1, 3) := by decide +kernel
theorem dX7_readAct_104 : decode cX7_readAct 104 = .ok (.goto (-65), 3) := by decide +kernel
theorem dX7_readAct_107 : decode cX7_readAct 107 = .ok (.aload_n 0, 1) := by decide +kernel
theorem dX7_readAct_108 : decode cX7_readAct 108 = .ok (.getfield 27, 3) := by decide +kernel
theorem dX7_readAct_111 : decode cX7_readAct 111 = .ok (.ireturn, 1) := by decide +kernel
set_option maxRecDepth 100000 in
theorem t_Tp_readAct_J86 (hC : CX z ad x cX7_readAct RX7 3 (some .int)) (hR : x.2.2.1 = rmk 10 0 0) (τ : XS) : AT z x 3 (wX z σ) rI (eqA ad) 0 0 0 0 ad 86 [(0, .ref 54)] [] τ (Tp_readAct_J86 τ) := by
  unfold Tp_readAct_J86
  refine at_aload_n (j := 0) hC rfl rfl dX7_readAct_86 ?_
  refine gf_X7_27 hC dX7_readAct_87 ?_
  exact at_iret (F := eqA ad) (ra := rI) hC dX7_readAct_90 rfl (Nat.le_refl 0) (Nat.le_refl 0) rfl
set_option maxRecDepth 100000 in
theorem t_Tp_readAct_L39 (hC : CX z ad x cX7_readAct RX7 3 (some .int)) (hR : x.2.2.1 = rmk 10 0 0) (n : Nat) (τ : XS) (a1 : Option Nat) (a2 : Int32) : AT z x 3 (wX z σ) rI (eqA ad) 0 0 0 0 ad 39 [(0, .ref 54), (1, vr a1), (2, .int a2)] [] τ (Tp_readAct_L39 n τ a1 a2) := by
  revert τ a1 a2
  show ∀ (τ : XS) (a1 : Option Nat) (a2 : Int32), AT z x 3 (wX z σ) rI (eqA ad) 0 0 0 0 ad 39 [(0, .ref 54), (1, vr a1), (2, .int a2)] [] τ (Tp_readAct_L39_r n τ a1 a2)
  induction n with
  | zero => intro τ a1 a2; exact at_none
  | succ n hk_39 =>
    intro τ a1 a2
    unfold Tp_readAct_L39_r
    refine at_iload_n (j := 2) hC rfl rfl dX7_readAct_39 ?_
    refine at_bipush hC bi_8 dX7_readAct_40 ?_
    refine at_icmp_ge (tgt := 107) hC dX7_readAct_42 rfl (fun _ => ?_) (fun _ => ?_)
    · refine at_aload_n (j := 0) hC rfl rfl dX7_readAct_107 ?_
      refine gf_X7_27 hC dX7_readAct_108 ?_
      exact at_iret (F := eqA ad) (ra := rI) hC dX7_readAct_111 rfl (Nat.le_refl 0) (Nat.le_refl 0) rfl
    · refine at_aload_n (j := 0) hC rfl rfl dX7_readAct_45 ?_
      refine at_aload_nV (j := 1) hC rfl rfl dX7_readAct_46 ?_
      refine at_callVI hC hR lk_X7_44 (c_Tp_readClause τ a1) dX7_readAct_47 recX7 rfl rfl ⟨by decide, by decide⟩ (Nat.le_of_ble_eq_true rfl) ⟨Nat.le_refl 0, Nat.le_refl 0⟩ (fun r3 r3s _ => ?_)
      refine at_if_ne (tgt := 58) hC dX7_readAct_50 rfl (fun _ => ?_) (fun _ => ?_)
      · refine at_aload_n (j := 0) hC rfl rfl dX7_readAct_58 ?_
        refine gf_X7_27 hC dX7_readAct_59 ?_
        refine at_aload_n (j := 0) hC rfl rfl dX7_readAct_62 ?_
        refine gf_X7_18 hC dX7_readAct_63 ?_
        refine at_icmp_lt (tgt := 71) hC dX7_readAct_66 rfl (fun _ => ?_) (fun _ => ?_)
        · refine at_aload_n (j := 0) hC rfl rfl dX7_readAct_71 ?_
          refine at_callVpI hC hR lk_X7_30 (c_Tp_next r3s) dX7_readAct_72 recX7 rfl rfl ⟨by decide, by decide⟩ (Nat.le_of_ble_eq_true rfl) ⟨Nat.le_refl 0, Nat.le_refl 0⟩ (fun r4 _ => ?_)
          refine at_bipush hC bi_59 dX7_readAct_75 ?_
          refine at_icmp_ne (tgt := 86) hC dX7_readAct_77 rfl (fun _ => ?_) (fun _ => ?_)
          · refine at_drop (lv' := [(0, .ref 54)]) [0] rfl ?_
            exact t_Tp_readAct_J86 hC hR r3s
          · refine at_iload_n (j := 2) hC rfl rfl dX7_readAct_80 ?_
            refine at_bipush hC bi_7 dX7_readAct_81 ?_
            refine at_icmp_ne (tgt := 91) hC dX7_readAct_83 rfl (fun _ => ?_) (fun _ => ?_)
            · refine at_aload_n (j := 0) hC rfl rfl dX7_readAct_91 ?_
              refine at_dup hC rfl dX7_readAct_92 ?_
              refine gf_X7_27 hC dX7_readAct_93 ?_
              refine at_iconst hC ic_1 dX7_readAct_96 ?_
              refine at_iadd hC dX7_readAct_97 ?_
              refine pf_X7_27 hC dX7_readAct_98 ?_
              refine at_iinc (j := 2) (v := a2 + 1) (lv' := [(2, .int (a2 + 1)), (0, .ref 54), (1, vr a1)]) hC dX7_readAct_101 rfl rfl (by decide) (by cases a1 <;> rfl) ?_
              refine at_goto (tgt := 39) hC dX7_readAct_104 rfl ?_
              refine at_drop (lv' := [(0, .ref 54), (1, vr a1), (2, .int (a2 + 1))]) [1, 2, 0] rfl ?_
              exact hk_39 (xI r3s 702 ((r3s.1 702) + 1)) a1 (a2 + 1)
            · refine at_drop (lv' := [(0, .ref 54)]) [0] rfl ?_
              exact t_Tp_readAct_J86 hC hR r3s
        · refine at_iconst hC ic_m1 dX7_readAct_69 ?_
          exact at_iret (F := eqA ad) (ra := rI) hC dX7_readAct_70 rfl (Nat.le_refl 0) (Nat.le_refl 0) rfl
      · refine at_aload_n (j := 0) hC rfl rfl dX7_readAct_53 ?_
        refine gf_X7_27 hC dX7_readAct_54 ?_
        exact at_iret (F := eqA ad) (ra := rI) hC dX7_readAct_57 rfl (Nat.le_refl 0) (Nat.le_refl 0) rfl
set_option maxRecDepth 100000 in
theorem t_Tp_readAct_J37 (hC : CX z ad x cX7_readAct RX7 3 (some .int)) (hR : x.2.2.1 = rmk 10 0 0) (τ : XS) (a1 : Option Nat) : AT z x 3 (wX z σ) rI (eqA ad) 0 0 0 0 ad 37 [(0, .ref 54), (1, vr a1)] [] τ (Tp_readAct_J37 τ a1) := by
  unfold Tp_readAct_J37
  refine at_iconst hC ic_0 dX7_readAct_37 ?_
  refine at_istore_n (lv' := [(2, .int 0), (0, .ref 54), (1, vr a1)]) hC rfl dX7_readAct_38 (by decide) (by cases a1 <;> rfl) ?_
  refine at_drop (lv' := [(0, .ref 54), (1, vr a1), (2, .int 0)]) [1, 2, 0] rfl ?_
  exact t_Tp_readAct_L39 hC hR 100000 τ a1 0
set_option maxRecDepth 100000 in
theorem c_Tp_readAct (τ : XS) (p0 : Option Nat) : Ct z (wX z σ) rI eqA yX7_readAct cX7_readAct 3 (some .int) 10 0 0 [.ref 54, vr p0] τ (Tp_readAct τ p0) := by
  refine Ct.of (by decide) (by cases p0 <;> exact Nat.le_of_ble_eq_true rfl) (fun ad x hC hR _ => ?_)
  rw [show lv_args 0 [.ref 54, vr p0] = [(0, .ref 54), (1, vr p0)] from by cases p0 <;> rfl]
  show AT z x 3 (wX z σ) rI (eqA ad) 0 0 0 0 ad 0 [(0, .ref 54), (1, vr p0)] [] τ (Tp_readAct τ p0)
  unfold Tp_readAct
  refine at_aload_nV (j := 1) hC rfl rfl dX7_readAct_0 ?_
  refine at_oA (pre := []) rfl (fun a_1 _ hg1 => ?_)
  refine at_callVU hC hR lk_X7_22 (c_Ac_clear τ a_1) dX7_readAct_1 ⟨0, _, _, rfl, rfl, cla hg1⟩ rfl rfl ⟨by decide, by decide⟩ (Nat.le_of_ble_eq_true rfl) ⟨Nat.le_refl 0, Nat.le_refl 0⟩ (fun r1 r1s _ => ?_)
  refine at_aload_n (j := 0) hC rfl rfl dX7_readAct_4 ?_
  refine at_iconst hC ic_0 dX7_readAct_5 ?_
  refine pf_X7_27 hC dX7_readAct_6 ?_
  refine at_aload_n (j := 0) hC rfl rfl dX7_readAct_9 ?_
  refine at_callVpI hC hR lk_X7_30 (c_Tp_next (xI r1s 702 0)) dX7_readAct_10 recX7 rfl rfl ⟨by decide, by decide⟩ (Nat.le_of_ble_eq_true rfl) ⟨Nat.le_refl 0, Nat.le_refl 0⟩ (fun r2 _ => ?_)
  refine at_bipush hC bi_98 dX7_readAct_13 ?_
  refine at_icmp_ne (tgt := 37) hC dX7_readAct_15 rfl (fun _ => ?_) (fun _ => ?_)
  · exact t_Tp_readAct_J37 hC hR (xI r1s 702 0) p0
  · refine at_aload_n (j := 0) hC rfl rfl dX7_readAct_18 ?_
    refine at_ldcS (m := 1000000) hC 0 rfl rfl dX7_readAct_19 ?_
    refine at_callVI hC hR lk_X7_36 (c_Tp_readAll (xI r1s 702 0) 1000000) dX7_readAct_21 recX7 rfl rfl ⟨by decide, by decide⟩ (Nat.le_of_ble_eq_true rfl) ⟨Nat.le_refl 0, Nat.le_refl 0⟩ (fun r5 r5s _ => ?_)
    refine at_if_ne (tgt := 32) hC dX7_readAct_24 rfl (fun _ => ?_) (fun _ => ?_)
    · refine at_aload_nV (j := 1) hC rfl rfl dX7_readAct_32 ?_
      refine at_iconst hC ic_1 dX7_readAct_33 ?_
      refine at_oA (pre := [.int 1]) rfl (fun a_2 _ hg2 => ?_)
      show AT z x 3 (wX z σ) rI (eqA ad) 0 0 0 0 ad 34 [(0, .ref 54), (1, vr p0)] [.int 1, .ref (80 + 7 * a_2)] r5s _
      refine at_put (C := RX0) (T := TX0) (N := 10) (ci := 0) (j := 1) (ty := .boolean) (ty0 := tyX0) hC (80 + 7 * a_2) dX7_readAct_34 inX0 tyX0_ok nmX0 (cla hg2) rfl (by decide) lf_X7_40 rfl rfl (by decide +kernel) (nbz (Or.inr rfl)) (ftz (Or.inr rfl)) (Nat.le_of_ble_eq_true rfl) (sta1 hg2) ?_
      exact t_Tp_readAct_J37 hC hR (xTI r5s a_2 1 1) p0
    · refine at_aload_n (j := 0) hC rfl rfl dX7_readAct_27 ?_
      refine gf_X7_27 hC dX7_readAct_28 ?_
      exact at_iret (F := eqA ad) (ra := rI) hC dX7_readAct_31 rfl (Nat.le_refl 0) (Nat.le_refl 0) rfl
theorem dX8_exchange_0 : decode cX8_exchange 0 = .ok (.iload_n 1, 1) := by decide +kernel
theorem dX8_exchange_1 : decode cX8_exchange 1 = .ok (.ifCond .lt 9, 3) := by decide +kernel
theorem dX8_exchange_4 : decode cX8_exchange 4 = .ok (.iload_n 1, 1) := by decide +kernel
theorem dX8_exchange_5 : decode cX8_exchange 5 = .ok (.bipush 72, 2) := by decide +kernel
theorem dX8_exchange_7 : decode cX8_exchange 7 = .ok (.if_icmp .le 7, 3) := by decide +kernel
theorem dX8_exchange_10 : decode cX8_exchange 10 = .ok (.ldc2_w 15, 3) := by decide +kernel
theorem dX8_exchange_13 : decode cX8_exchange 13 = .ok (.lreturn, 1) := by decide +kernel
theorem dX8_exchange_14 : decode cX8_exchange 14 = .ok (.aload_n 0, 1) := by decide +kernel
theorem dX8_exchange_15 : decode cX8_exchange 15 = .ok (.getfield 11, 3) := by decide +kernel
theorem dX8_exchange_18 : decode cX8_exchange 18 = .ok (.iload_n 1, 1) := by decide +kernel
theorem dX8_exchange_19 : decode cX8_exchange 19 = .ok (.laload, 1) := by decide +kernel
theorem dX8_exchange_20 : decode cX8_exchange 20 = .ok (.lstore 4, 2) := by decide +kernel
theorem dX8_exchange_22 : decode cX8_exchange 22 = .ok (.aload_n 0, 1) := by decide +kernel
theorem dX8_exchange_23 : decode cX8_exchange 23 = .ok (.getfield 11, 3) := by decide +kernel
theorem dX8_exchange_26 : decode cX8_exchange 26 = .ok (.iload_n 1, 1) := by decide +kernel
theorem dX8_exchange_27 : decode cX8_exchange 27 = .ok (.lload_n 2, 1) := by decide +kernel
theorem dX8_exchange_28 : decode cX8_exchange 28 = .ok (.lastore, 1) := by decide +kernel
theorem dX8_exchange_29 : decode cX8_exchange 29 = .ok (.lload 4, 2) := by decide +kernel
theorem dX8_exchange_31 : decode cX8_exchange 31 = .ok (.lreturn, 1) := by decide +kernel
set_option maxRecDepth 100000 in
theorem c_Ty_exchange (τ : XS) (p0 : Int32) (p1 : Int64) : Ct z (wX z σ) rJ eqA yX8_exchange cX8_exchange 6 (some .long) 1 0 0 [.ref 78, .int p0, .long p1] τ (Ty_exchange τ p0 p1) := by
  refine Ct.of (by decide) (Nat.le_of_ble_eq_true rfl) (fun ad x hC hR _ => ?_)
  show AT z x 6 (wX z σ) rJ (eqA ad) 0 0 0 0 ad 0 [(0, .ref 78), (1, .int p0), (2, .long p1)] [] τ (Ty_exchange τ p0 p1)
  unfold Ty_exchange
  refine at_iload_n (j := 1) hC rfl rfl dX8_exchange_0 ?_
  refine at_if_lt (tgt := 10) hC dX8_exchange_1 rfl (fun _ => ?_) (fun _ => ?_)
  · refine at_ldc2 hC kl_X8_15 dX8_exchange_10 ?_
    exact at_lret (F := eqA ad) (ra := rJ) hC dX8_exchange_13 rfl (Nat.le_refl 0) (Nat.le_refl 0) rfl
  · refine at_iload_n (j := 1) hC rfl rfl dX8_exchange_4 ?_
    refine at_bipush hC bi_72 dX8_exchange_5 ?_
    refine at_icmp_le (tgt := 14) hC dX8_exchange_7 rfl (fun _ => ?_) (fun _ => ?_)
    · refine at_aload_n (j := 0) hC rfl rfl dX8_exchange_14 ?_
      refine gf_X8_11 hC dX8_exchange_15 ?_
      refine at_iload_n (j := 1) hC rfl rfl dX8_exchange_18 ?_
      refine at_lald hC 79 dX8_exchange_19 cl_79 (fun v1 => ?_)
      refine at_lstore (lv' := [(4, .long v1), (0, .ref 78), (1, .int p0), (2, .long p1)]) hC dX8_exchange_20 (by decide) rfl ?_
      refine at_aload_n (j := 1) hC rfl rfl dX8_exchange_22 ?_
      refine gf_X8_11 hC dX8_exchange_23 ?_
      refine at_iload_n (j := 2) hC rfl rfl dX8_exchange_26 ?_
      refine at_lload_n (j := 3) hC rfl rfl dX8_exchange_27 ?_
      refine at_last hC 79 dX8_exchange_28 cl_79 st_79 ?_
      refine at_lload (j := 0) hC rfl dX8_exchange_29 ?_
      exact at_lret (F := eqA ad) (ra := rJ) hC dX8_exchange_31 rfl (Nat.le_refl 0) (Nat.le_refl 0) rfl
    · refine at_ldc2 hC kl_X8_15 dX8_exchange_10 ?_
      exact at_lret (F := eqA ad) (ra := rJ) hC dX8_exchange_13 rfl (Nat.le_refl 0) (Nat.le_refl 0) rfl
theorem dX9_addDeath_0 : decode cX9_addDeath 0 = .ok (.iload_n 1, 1) := by decide +kernel
theorem dX9_addDeath_1 : decode cX9_addDeath 1 = .ok (.bipush 8, 2) := by decide +kernel
theorem dX9_addDeath_3 : decode cX9_addDeath 3 = .ok (.imul, 1) := by decide +kernel
theorem dX9_addDeath_4 : decode cX9_addDeath 4 = .ok (.aload_n 0, 1) := by decide +kernel
theorem dX9_addDeath_5 : decode cX9_addDeath 5 = .ok (.getfield 9, 3) := by decide +kernel
theorem dX9_addDeath_8 : decode cX9_addDeath 8 = .ok (.iload_n 1, 1) := by decide +kernel
theorem dX9_addDeath_9 : decode cX9_addDeath 9 = .ok (.iaload, 1) := by decide +kernel
theorem dX9_addDeath_10 : decode cX9_addDeath 10 = .ok (.iadd, 1) := by decide +kernel
theorem dX9_addDeath_11 : decode cX9_addDeath 11 = .ok (.istore 4, 2) := by decide +kernel
theorem dX9_addDeath_13 : decode cX9_addDeath 13 = .ok (.aload_n 0, 1) := by decide +kernel
theorem dX9_addDeath_14 : decode cX9_addDeath 14 = .ok (.getfield 15, 3) := by decide +kernel
theorem dX9_addDeath_17 : decode cX9_addDeath 17 = .ok (.iload 4, 2) := by decide +kernel
theorem dX9_addDeath_19 : decode cX9_addDeath 19 = .ok (.iload_n 2, 1) := by decide +kernel
theorem dX9_addDeath_20 : decode cX9_addDeath 20 = .ok (.iastore, 1) := by decide +kernel
theorem dX9_addDeath_21 : decode cX9_addDeath 21 = .ok (.aload_n 0, 1) := by decide +kernel
theorem dX9_addDeath_22 : decode cX9_addDeath 22 = .ok (.getfield 18, 3) := by decide +kernel
theorem dX9_addDeath_25 : decode cX9_addDeath 25 = .ok (.iload 4, 2) := by decide +kernel
theorem dX9_addDeath_27 : decode cX9_addDeath 27 = .ok (.iload_n 3, 1) := by decide +kernel
theorem dX9_addDeath_28 : decode cX9_addDeath 28 = .ok (.iastore, 1) := by decide +kernel
theorem dX9_addDeath_29 : decode cX9_addDeath 29 = .ok (.aload_n 0, 1) := by decide +kernel
theorem dX9_addDeath_30 : decode cX9_addDeath 30 = .ok (.getfield 9, 3) := by decide +kernel
theorem dX9_addDeath_33 : decode cX9_addDeath 33 = .ok (.iload_n 1, 1) := by decide +kernel
theorem dX9_addDeath_34 : decode cX9_addDeath 34 = .ok (.dup2, 1) := by decide +kernel
theorem dX9_addDeath_35 : decode cX9_addDeath 35 = .ok (.iaload, 1) := by decide +kernel
theorem dX9_addDeath_36 : decode cX9_addDeath 36 = .ok (.iconst 1, 1) := by decide +kernel
theorem dX9_addDeath_37 : decode cX9_addDeath 37 = .ok (.iadd, 1) := by decide +kernel
theorem dX9_addDeath_38 : decode cX9_addDeath 38 = .ok (.iastore, 1) := by decide +kernel
theorem dX9_addDeath_39 : decode cX9_addDeath 39 = .ok (.aload_n 0, 1) := by decide +kernel
theorem dX9_addDeath_40 : decode cX9_addDeath 40 = .ok (.getfield 9, 3) := by decide +kernel
theorem dX9_addDeath_43 : decode cX9_addDeath 43 = .ok (.iload_n 1, 1) := by decide +kernel
theorem dX9_addDeath_44 : decode cX9_addDeath 44 = .ok (.iaload, 1) := by decide +kernel
theorem dX9_addDeath_45 : decode cX9_addDeath 45 = .ok (.ireturn, 1) := by decide +kernel
set_option maxRecDepth 100000 in
theorem c_Tr_addDeath (τ : XS) (p0 : Int32) (p1 : Int32) (p2 : Int32) : Ct z (wX z σ) rI eqA yX9_addDeath cX9_addDeath 5 (some .int) 1 0 0 [.ref 70, .int p0, .int p1, .int p2] τ (Tr_addDeath τ p0 p1 p2) := by
  refine Ct.of (by decide) (Nat.le_of_ble_eq_true rfl) (fun ad x hC hR _ => ?_)
  show AT z x 5 (wX z σ) rI (eqA ad) 0 0 0 0 ad 0 [(0, .ref 70), (1, .int p0), (2, .int p1), (3, .int p2)] [] τ (Tr_addDeath τ p0 p1 p2)
  unfold Tr_addDeath
  refine at_iload_n (j := 1) hC rfl rfl dX9_addDeath_0 ?_
  refine at_bipush hC bi_8 dX9_addDeath_1 ?_
  refine at_imul hC dX9_addDeath_3 ?_
  refine at_aload_n (j := 0) hC rfl rfl dX9_addDeath_4 ?_
  refine gf_X9_9 hC dX9_addDeath_5 ?_
  refine at_iload_n (j := 1) hC rfl rfl dX9_addDeath_8 ?_
  refine at_iald hC 71 dX9_addDeath_9 cl_71 (fun v1 => ?_)
  refine at_iadd hC dX9_addDeath_10 ?_
  refine at_istore (lv' := [(4, .int ((p0 * 8) + v1)), (0, .ref 70), (1, .int p0), (2, .int p1), (3, .int p2)]) hC dX9_addDeath_11 (by decide) rfl ?_
  refine at_aload_n (j := 1) hC rfl rfl dX9_addDeath_13 ?_
  refine gf_X9_15 hC dX9_addDeath_14 ?_
  refine at_iload (j := 0) hC rfl dX9_addDeath_17 ?_
  refine at_iload_n (j := 3) hC rfl rfl dX9_addDeath_19 ?_
  refine at_iast hC 72 dX9_addDeath_20 cl_72 st_72 ?_
  refine at_aload_n (j := 1) hC rfl rfl dX9_addDeath_21 ?_
  refine gf_X9_18 hC dX9_addDeath_22 ?_
  refine at_iload (j := 0) hC rfl dX9_addDeath_25 ?_
  refine at_iload_n (j := 4) hC rfl rfl dX9_addDeath_27 ?_
  refine at_iast hC 73 dX9_addDeath_28 cl_73 st_73 ?_
  refine at_aload_n (j := 1) hC rfl rfl dX9_addDeath_29 ?_
  refine gf_X9_9 hC dX9_addDeath_30 ?_
  refine at_iload_n (j := 2) hC rfl rfl dX9_addDeath_33 ?_
  refine at_dup2 hC rfl rfl dX9_addDeath_34 ?_
  refine at_iald hC 71 dX9_addDeath_35 cl_71 (fun v2 => ?_)
  refine at_iconst hC ic_1 dX9_addDeath_36 ?_
  refine at_iadd hC dX9_addDeath_37 ?_
  refine at_iast hC 71 dX9_addDeath_38 cl_71 st_71 ?_
  refine at_aload_n (j := 1) hC rfl rfl dX9_addDeath_39 ?_
  refine gf_X9_9 hC dX9_addDeath_40 ?_
  refine at_iload_n (j := 2) hC rfl rfl dX9_addDeath_43 ?_
  refine at_iald hC 71 dX9_addDeath_44 cl_71 (fun v3 => ?_)
  exact at_iret (F := eqA ad) (ra := rI) hC dX9_addDeath_45 rfl (Nat.le_refl 0) (Nat.le_refl 0) rfl
theorem dX9_addStep_0 : decode cX9_addStep 0 = .ok (.aload_n 0, 1) := by decide +kernel
theorem dX9_addStep_1 : decode cX9_addStep 1 = .ok (.getfield 21, 3) := by decide +kernel
theorem dX9_addStep_4 : decode cX9_addStep 4 = .ok (.aload_n 0, 1) := by decide +kernel
theorem dX9_addStep_5 : decode cX9_addStep 5 = .ok (.getfield 31, 3) := by decide +kernel
theorem dX9_addStep_8 : decode cX9_addStep 8 = .ok (.iload_n 1, 1) := by decide +kernel
theorem dX9_addStep_9 : decode cX9_addStep 9 = .ok (.iastore, 1) := by decide +kernel
theorem dX9_addStep_10 : decode cX9_addStep 10 = .ok (.aload_n 0, 1) := by decide +kernel
theorem dX9_addStep_11 : decode cX9_addStep 11 = .ok (.getfield 24, 3) := by decide +kernel
theorem dX9_addStep_14 : decode cX9_addStep 14 = .ok (.aload_n 0, 1) := by decide +kernel
theorem dX9_addStep_15 : decode cX9_addStep 15 = .ok (.getfield 31, 3) := by decide +kernel
theorem dX9_addStep_18 : decode cX9_addStep 18 = .ok (.iload_n 2, 1) := by decide +kernel
theorem dX9_addStep_19 : decode cX9_addStep 19 = .ok (.iastore, 1) := by decide +kernel
theorem dX9_addStep_20 : decode cX9_addStep 20 = .ok (.aload_n 0, 1) := by decide +kernel
theorem dX9_addStep_21 : decode cX9_addStep 21 = .ok (.dup, 1) := by decide +kernel
theorem dX9_addStep_22 : decode cX9_addStep 22 = .ok (.getfield 31, 3) := by decide +kernel
theorem dX9_addStep_25 : decode cX9_addStep 25 = .ok (.dup_x1, 1) := by decide +kernel
theorem dX9_addStep_26 : decode cX9_addStep 26 = .ok (.iconst 1, 1) := by decide +kernel
theorem dX9_addStep_27 : decode cX9_addStep 27 = .ok (.iadd, 1) := by decide +kernel
theorem dX9_addStep_28 : decode cX9_addStep 28 = .ok (.putfield 31, 3) := by decide +kernel
theorem dX9_addStep_31 : decode cX9_addStep 31 = .ok (.ireturn, 1) := by decide +kernel
set_option maxRecDepth 100000 in
theorem c_Tr_addStep (τ : XS) (p0 : Int32) (p1 : Int32) : Ct z (wX z σ) rI eqA yX9_addStep cX9_addStep 3 (some .int) 1 0 0 [.ref 70, .int p0, .int p1] τ (Tr_addStep τ p0 p1) := by
  refine Ct.of (by decide) (Nat.le_of_ble_eq_true rfl) (fun ad x hC hR _ => ?_)
  show AT z x 3 (wX z σ) rI (eqA ad) 0 0 0 0 ad 0 [(0, .ref 70), (1, .int p0), (2, .int p1)] [] τ (Tr_addStep τ p0 p1)
  unfold Tr_addStep
  refine at_aload_n (j := 0) hC rfl rfl dX9_addStep_0 ?_
  refine gf_X9_21 hC dX9_addStep_1 ?_
  refine at_aload_n (j := 0) hC rfl rfl dX9_addStep_4 ?_
  refine gf_X9_31 hC dX9_addStep_5 ?_
  refine at_iload_n (j := 1) hC rfl rfl dX9_addStep_8 ?_
  refine at_iast hC 74 dX9_addStep_9 cl_74 st_74 ?_
  refine at_aload_n (j := 0) hC rfl rfl dX9_addStep_10 ?_
  refine gf_X9_24 hC dX9_addStep_11 ?_
  refine at_aload_n (j := 0) hC rfl rfl dX9_addStep_14 ?_
  refine gf_X9_31 hC dX9_addStep_15 ?_
  refine at_iload_n (j := 2) hC rfl rfl dX9_addStep_18 ?_
  refine at_iast hC 75 dX9_addStep_19 cl_75 st_75 ?_
  refine at_aload_n (j := 0) hC rfl rfl dX9_addStep_20 ?_
  refine at_dup hC rfl dX9_addStep_21 ?_
  refine gf_X9_31 hC dX9_addStep_22 ?_
  refine at_dup_x1 hC rfl rfl dX9_addStep_25 ?_
  refine at_iconst hC ic_1 dX9_addStep_26 ?_
  refine at_iadd hC dX9_addStep_27 ?_
  refine pf_X9_31 hC dX9_addStep_28 ?_
  exact at_iret (F := eqA ad) (ra := rI) hC dX9_addStep_31 rfl (Nat.le_refl 0) (Nat.le_refl 0) rfl
theorem dX9_hasOneEach_0 : decode cX9_hasOneEach 0 = .ok (.iconst 0, 1) := by decide +kernel
theorem dX9_hasOneEach_1 : decode cX9_hasOneEach 1 = .ok (.istore_n 2, 1) := by decide +kernel
theorem dX9_hasOneEach_2 : decode cX9_hasOneEach 2 = .ok (.iconst 0, 1) := by decide +kernel
theorem dX9_hasOneEach_3 : decode cX9_hasOneEach 3 = .ok (.istore_n 3, 1) := by decide +kernel
theorem dX9_hasOneEach_4 : decode cX9_hasOneEach 4 = .ok (.iload_n 3, 1) := by decide +kernel
theorem dX9_hasOneEach_5 : decode cX9_hasOneEach 5 = .ok (.aload_n 0, 1) := by decide +kernel
theorem dX9_hasOneEach_6 : decode cX9_hasOneEach 6 = .ok (.getfield 31, 3) := by decide +kernel
theorem dX9_hasOneEach_9 : decode cX9_hasOneEach 9 = .ok (.if_icmp .ge 44, 3) := by decide +kernel
theorem dX9_hasOneEach_12 : decode cX9_hasOneEach 12 = .ok (.iload_n 1, 1) := by decide +kernel
theorem dX9_hasOneEach_13 : decode cX9_hasOneEach 13 = .ok (.iload_n 3, 1) := by decide +kernel
theorem dX9_hasOneEach_14 : decode cX9_hasOneEach 14 = .ok (.ishr, 1) := by decide +kernel
theorem dX9_hasOneEach_15 : decode cX9_hasOneEach 15 = .ok (.iconst 1, 1) := by decide +kernel
theorem dX9_hasOneEach_16 : decode cX9_hasOneEach 16 = .ok (.iand, 1) := by decide +kernel
theorem dX9_hasOneEach_17 : decode cX9_hasOneEach 17 = .ok (.ifCond .ne 6, 3) := by decide +kernel
theorem dX9_hasOneEach_20 : decode cX9_hasOneEach 20 = .ok (.goto 27, 3) := by decide +kernel
theorem dX9_hasOneEach_23 : decode cX9_hasOneEach 23 = .ok (.iconst 1, 1) := by decide +kernel
theorem dX9_hasOneEach_24 : decode cX9_hasOneEach 24 = .ok (.aload_n 0, 1) := by decide +kernel
theorem dX9_hasOneEach_25 : decode cX9_hasOneEach 25 = .ok (.getfield 21, 3) := by decide +kernel
theorem dX9_hasOneEach_28 : decode cX9_hasOneEach 28 = .ok (.iload_n 3, 1) := by decide +kernel
theorem dX9_hasOneEach_29 : decode cX9_hasOneEach 29 = .ok (.iaload, 1) := by decide +kernel
theorem dX9_hasOneEach_30 : decode cX9_hasOneEach 30 = .ok (.ishl, 1) := by decide +kernel
theorem dX9_hasOneEach_31 : decode cX9_hasOneEach 31 = .ok (.istore 4, 2) := by decide +kernel
theorem dX9_hasOneEach_33 : decode cX9_hasOneEach 33 = .ok (.iload_n 2, 1) := by decide +kernel
theorem dX9_hasOneEach_34 : decode cX9_hasOneEach 34 = .ok (.iload 4, 2) := by decide +kernel
theorem dX9_hasOneEach_36 : decode cX9_hasOneEach 36 = .ok (.iand, 1) := by decide +kernel
theorem dX9_hasOneEach_37 : decode cX9_hasOneEach 37 = .ok (.ifCond .eq 5, 3) := by decide +kernel
theorem dX9_hasOneEach_40 : decode cX9_hasOneEach 40 = .ok (.iconst 0, 1) := by decide +kernel
theorem dX9_hasOneEach_41 : decode cX9_hasOneEach 41 = .ok (.ireturn, 1) := by decide +kernel
theorem dX9_hasOneEach_42 : decode cX9_hasOneEach 42 = .ok (.iload_n 2, 1) := by decide +kernel
theorem dX9_hasOneEach_43 : decode cX9_hasOneEach 43 = .ok (.iload 4, 2) := by decide +kernel
theorem dX9_hasOneEach_45 : decode cX9_hasOneEach 45 = .ok (.ior, 1) := by decide +kernel
theorem dX9_hasOneEach_46 : decode cX9_hasOneEach 46 = .ok (.istore_n 2, 1) := by decide +kernel
theorem dX9_hasOneEach_47 : decode cX9_hasOneEach 47 = .ok (.iinc 3 1, 3) := by decide +kernel
theorem dX9_hasOneEach_50 : decode cX9_hasOneEach 50 = .ok (.goto (-46), 3) := by decide +kernel
theorem dX9_hasOneEach_53 : decode cX9_hasOneEach 53 = .ok (.iconst 1, 1) := by decide +kernel
theorem dX9_hasOneEach_54 : decode cX9_hasOneEach 54 = .ok (.ireturn, 1) := by decide +kernel
set_option maxRecDepth 100000 in
theorem t_Tr_hasOneEach_J47 (hC : CX z ad x cX9_hasOneEach RX9 5 (some .boolean)) (hR : x.2.2.1 = rmk 1 0 0) (τ : XS) (k_4 : Int32 → Int32 → Int32 → Option Int32) (hk_4 : ∀ (a1 : Int32) (a2 : Int32) (a3 : Int32), AT z x 5 (wX z σ) rI (eqA ad) 0 0 0 0 ad 4 [(0, .ref 70), (1, .int a1), (2, .int a2), (3, .int a3)] [] τ ((k_4 a1 a2 a3).map fun r => (r, τ))) (a1 : Int32) (a2 : Int32) (a3 : Int32) : AT z x 5 (wX z σ) rI (eqA ad) 0 0 0 0 ad 47 [(0, .ref 70), (1, .int a1), (2, .int a2), (3, .int a3)] [] τ ((Tr_hasOneEach_J47 k_4 τ a1 a2 a3).map fun r => (r, τ)) := by
  unfold Tr_hasOneEach_J47
  refine at_iinc (j := 3) (v := a3 + 1) (lv' := [(3, .int (a3 + 1)), (0, .ref 70), (1, .int a1), (2, .int a2)]) hC dX9_hasOneEach_47 rfl rfl (by decide) rfl ?_
  refine at_goto (tgt := 4) hC dX9_hasOneEach_50 rfl ?_
  refine at_drop (lv' := [(0, .ref 70), (1, .int a1), (2, .int a2), (3, .int (a3 + 1))]) [1, 2, 3, 0] rfl ?_
  exact hk_4 a1 a2 (a3 + 1)
set_option maxRecDepth 100000 in
theorem t_Tr_hasOneEach_L4 (hC : CX z ad x cX9_hasOneEach RX9 5 (some .boolean)) (hR : x.2.2.1 = rmk 1 0 0) (τ : XS) (n : Nat) (a1 : Int32) (a2 : Int32) (a3 : Int32) : AT z x 5 (wX z σ) rI (eqA ad) 0 0 0 0 ad 4 [(0, .ref 70), (1, .int a1), (2, .int a2), (3, .int a3)] [] τ ((Tr_hasOneEach_L4 n τ a1 a2 a3).map fun r => (r, τ)) := by
  revert a1 a2 a3
  show ∀ (a1 : Int32) (a2 : Int32) (a3 : Int32), AT z x 5 (wX z σ) rI (eqA ad) 0 0 0 0 ad 4 [(0, .ref 70), (1, .int a1), (2, .int a2), (3, .int a3)] [] τ ((Tr_hasOneEach_L4_r τ n a1 a2 a3).map fun r => (r, τ))
  induction n with
  | zero => intro a1 a2 a3; exact ap_none
  | succ n hk_4 =>
    intro a1 a2 a3
    unfold Tr_hasOneEach_L4_r
    refine at_iload_n (j := 3) hC rfl rfl dX9_hasOneEach_4 ?_
    refine at_aload_n (j := 0) hC rfl rfl dX9_hasOneEach_5 ?_
    refine gf_X9_31 hC dX9_hasOneEach_6 ?_
    refine ap_icmp_ge (tgt := 53) hC dX9_hasOneEach_9 rfl (fun _ => ?_) (fun _ => ?_)
    · refine at_iconst hC ic_1 dX9_hasOneEach_53 ?_
      exact at_zret (F := eqA ad) (ra := rI) hC nb1 dX9_hasOneEach_54 rfl (Nat.le_refl 0) (Nat.le_refl 0) rfl
    · refine at_iload_n (j := 1) hC rfl rfl dX9_hasOneEach_12 ?_
      refine at_iload_n (j := 3) hC rfl rfl dX9_hasOneEach_13 ?_
      refine at_ishr hC dX9_hasOneEach_14 ?_
      refine at_iconst hC ic_1 dX9_hasOneEach_15 ?_
      refine at_iand hC dX9_hasOneEach_16 ?_
      refine ap_if_ne (tgt := 23) hC dX9_hasOneEach_17 rfl (fun _ => ?_) (fun _ => ?_)
      · refine at_iconst hC ic_1 dX9_hasOneEach_23 ?_
        refine at_aload_n (j := 0) hC rfl rfl dX9_hasOneEach_24 ?_
        refine gf_X9_21 hC dX9_hasOneEach_25 ?_
        refine at_iload_n (j := 3) hC rfl rfl dX9_hasOneEach_28 ?_
        refine ap_iald hC 74 dX9_hasOneEach_29 cl_74 (fun v1 => ?_)
        refine at_ishl hC dX9_hasOneEach_30 ?_
        refine at_istore (lv' := [(4, .int (1 <<< (v1 &&& 31))), (0, .ref 70), (1, .int a1), (2, .int a2), (3, .int a3)]) hC dX9_hasOneEach_31 (by decide) rfl ?_
        refine at_iload_n (j := 3) hC rfl rfl dX9_hasOneEach_33 ?_
        refine at_iload (j := 0) hC rfl dX9_hasOneEach_34 ?_
        refine at_iand hC dX9_hasOneEach_36 ?_
        refine ap_if_eq (tgt := 42) hC dX9_hasOneEach_37 rfl (fun _ => ?_) (fun _ => ?_)
        · refine at_iload_n (j := 3) hC rfl rfl dX9_hasOneEach_42 ?_
          refine at_iload (j := 0) hC rfl dX9_hasOneEach_43 ?_
          refine at_ior hC dX9_hasOneEach_45 ?_
          refine at_istore_n (lv' := [(2, .int (a2 ||| (1 <<< (v1 &&& 31)))), (4, .int (1 <<< (v1 &&& 31))), (0, .ref 70), (1, .int a1), (3, .int a3)]) hC rfl dX9_hasOneEach_46 (by decide) rfl ?_
          refine at_drop (lv' := [(0, .ref 70), (1, .int a1), (2, .int (a2 ||| (1 <<< (v1 &&& 31)))), (3, .int a3)]) [2, 3, 0, 4] rfl ?_
          exact t_Tr_hasOneEach_J47 hC hR τ (Tr_hasOneEach_L4_r τ n) hk_4 a1 (a2 ||| (1 <<< (v1 &&& 31))) a3
        · refine at_iconst hC ic_0 dX9_hasOneEach_40 ?_
          exact at_zret (F := eqA ad) (ra := rI) hC nb0 dX9_hasOneEach_41 rfl (Nat.le_refl 0) (Nat.le_refl 0) rfl
      · refine at_goto (tgt := 47) hC dX9_hasOneEach_20 rfl ?_
        exact t_Tr_hasOneEach_J47 hC hR τ (Tr_hasOneEach_L4_r τ n) hk_4 a1 a2 a3
set_option maxRecDepth 100000 in
theorem c_Tr_hasOneEach (τ : XS) (p0 : Int32) : Ct z (wX z σ) rI eqA yX9_hasOneEach cX9_hasOneEach 5 (some .boolean) 1 0 0 [.ref 70, .int p0] τ ((Tr_hasOneEach τ p0).map fun r => (r, τ)) := by
  refine Ct.of (by decide) (Nat.le_of_ble_eq_true rfl) (fun ad x hC hR _ => ?_)
  show AT z x 5 (wX z σ) rI (eqA ad) 0 0 0 0 ad 0 [(0, .ref 70), (1, .int p0)] [] τ ((Tr_hasOneEach τ p0).map fun r => (r, τ))
  unfold Tr_hasOneEach
  refine at_iconst hC ic_0 dX9_hasOneEach_0 ?_
  refine at_istore_n (lv' := [(2, .int 0), (0, .ref 70), (1, .int p0)]) hC rfl dX9_hasOneEach_1 (by decide) rfl ?_
  refine at_iconst hC ic_0 dX9_hasOneEach_2 ?_
  refine at_istore_n (lv' := [(3, .int 0), (2, .int 0), (0, .ref 70), (1, .int p0)]) hC rfl dX9_hasOneEach_3 (by decide) rfl ?_
  refine at_drop (lv' := [(0, .ref 70), (1, .int p0), (2, .int 0), (3, .int 0)]) [2, 3, 1, 0] rfl ?_
  exact t_Tr_hasOneEach_L4 hC hR τ 100000 p0 0 0
theorem dX9_isBetter_0 : decode cX9_isBetter 0 = .ok (.aload_n 0, 1) := by decide +kernel
theorem dX9_isBetter_1 : decode cX9_isBetter 1 = .ok (.iload_n 1, 1) := by decide +kernel
theorem dX9_isBetter_2 : decode cX9_isBetter 2 = .ok (.iconst 0, 1) := by decide +kernel
theorem dX9_isBetter_3 : decode cX9_isBetter 3 = .ok (.iconst 0, 1) := by decide +kernel
theorem dX9_isBetter_4 : decode cX9_isBetter 4 = .ok (.iload_n 3, 1) := by decide +kernel
theorem dX9_isBetter_5 : decode cX9_isBetter 5 = .ok (.invokestatic 44, 3) := by decide +kernel
theorem dX9_isBetter_8 : decode cX9_isBetter 8 = .ok (.invokevirtual 50, 3) := by decide +kernel
theorem dX9_isBetter_11 : decode cX9_isBetter 11 = .ok (.istore 4, 2) := by decide +kernel
theorem dX9_isBetter_13 : decode cX9_isBetter 13 = .ok (.aload_n 0, 1) := by decide +kernel
theorem dX9_isBetter_14 : decode cX9_isBetter 14 = .ok (.iload_n 2, 1) := by decide +kernel
theorem dX9_isBetter_15 : decode cX9_isBetter 15 = .ok (.iconst 0, 1) := by decide +kernel
theorem dX9_isBetter_16 : decode cX9_isBetter 16 = .ok (.iconst 0, 1) := by decide +kernel
theorem dX9_isBetter_17 : decode cX9_isBetter 17 = .ok (.iload_n 3, 1) := by decide +kernel
theorem dX9_isBetter_18 : decode cX9_isBetter 18 = .ok (.invokestatic 44, 3) := by decide +kernel
theorem dX9_isBetter_21 : decode cX9_isBetter 21 = .ok (.invokevirtual 50, 3) := by decide +kernel
theorem dX9_isBetter_24 : decode cX9_isBetter 24 = .ok (.istore 5, 2) := by decide +kernel
theorem dX9_isBetter_26 : decode cX9_isBetter 26 = .ok (.iload 4, 2) := by decide +kernel
theorem dX9_isBetter_28 : decode cX9_isBetter 28 = .ok (.iload 5, 2) := by decide +kernel
theorem dX9_isBetter_30 : decode cX9_isBetter 30 = .ok (.if_icmp .eq 16, 3) := by decide +kernel
theorem dX9_isBetter_33 : decode cX9_isBetter 33 = .ok (.iload 4, 2) := by decide +kernel
theorem dX9_isBetter_35 : decode cX9_isBetter 35 = .ok (.iload 5, 2) := by decide +kernel
theorem dX9_isBetter_37 : decode cX9_isBetter 37 = .ok (.if_icmp .ge 7, 3) := by decide +kernel
theorem dX9_isBetter_40 : decode cX9_isBetter 40 = .ok (.iconst 1, 1) := by decide +kernel
theorem dX9_isBetter_41 : decode cX9_isBetter 41 = .ok (.goto 4, 3) := by decide +kernel
theorem dX9_isBetter_44 : decode cX9_isBetter 44 = .ok (.iconst 0, 1) := by decide +kernel
theorem dX9_isBetter_45 : decode cX9_isBetter 45 = .ok (.ireturn, 1) := by decide +kernel
theorem dX9_isBetter_46 : decode cX9_isBetter 46 = .ok (.iload_n 1, 1) := by decide +kernel
theorem dX9_isBetter_47 : decode cX9_isBetter 47 = .ok (.invokestatic 54, 3) := by decide +kernel
theorem dX9_isBetter_50 : decode cX9_isBetter 50 = .ok (.iload_n 2, 1) := by decide +kernel
theorem dX9_isBetter_51 : decode cX9_isBetter 51 = .ok (.invokestatic 54, 3) := by decide +kernel
theorem dX9_isBetter_54 : decode cX9_isBetter 54 = .ok (.if_icmp .ge 7, 3) := by decide +kernel
theorem dX9_isBetter_57 : decode cX9_isBetter 57 = .ok (.iconst 1, 1) := by decide +kernel
theorem dX9_isBetter_58 : decode cX9_isBetter 58 = .ok (.goto 4, 3) := by decide +kernel
theorem dX9_isBetter_61 : decode cX9_isBetter 61 = .ok (.iconst 0, 1) := by decide +kernel
theorem dX9_isBetter_62 : decode cX9_isBetter 62 = .ok (.ireturn, 1) := by decide +kernel
set_option maxRecDepth 100000 in
theorem c_Tr_isBetter (τ : XS) (p0 : Int32) (p1 : Int32) (p2 : Int32) : Ct z (wX z σ) rI eqA yX9_isBetter cX9_isBetter 6 (some .boolean) 5 0 0 [.ref 70, .int p0, .int p1, .int p2] τ ((Tr_isBetter τ p0 p1 p2).map fun r => (r, τ)) := by
  refine Ct.of (by decide) (Nat.le_of_ble_eq_true rfl) (fun ad x hC hR _ => ?_)
  show AT z x 6 (wX z σ) rI (eqA ad) 0 0 0 0 ad 0 [(0, .ref 70), (1, .int p0), (2, .int p1), (3, .int p2)] [] τ ((Tr_isBetter τ p0 p1 p2).map fun r => (r, τ))
  unfold Tr_isBetter
  refine at_aload_n (j := 0) hC rfl rfl dX9_isBetter_0 ?_
  refine at_iload_n (j := 1) hC rfl rfl dX9_isBetter_1 ?_
  refine at_iconst hC ic_0 dX9_isBetter_2 ?_
  refine at_iconst hC ic_0 dX9_isBetter_3 ?_
  refine at_iload_n (j := 3) hC rfl rfl dX9_isBetter_4 ?_
  refine at_mxI hC hR lkm_X9_44 dX9_isBetter_5 (by decide) (Nat.le_of_ble_eq_true rfl) ⟨Nat.le_refl 0, Nat.le_refl 0⟩ ?_
  refine ap_callVI hC hR lk_X9_50 (c_Tr_stepped τ p0 0 (mxI 0 p2)) dX9_isBetter_8 recX9 rfl rfl ⟨by decide, by decide⟩ (Nat.le_of_ble_eq_true rfl) ⟨Nat.le_refl 0, Nat.le_refl 0⟩ (fun r2 _ => ?_)
  refine at_istore (lv' := [(4, .int r2), (0, .ref 70), (1, .int p0), (2, .int p1), (3, .int p2)]) hC dX9_isBetter_11 (by decide) rfl ?_
  refine at_aload_n (j := 1) hC rfl rfl dX9_isBetter_13 ?_
  refine at_iload_n (j := 3) hC rfl rfl dX9_isBetter_14 ?_
  refine at_iconst hC ic_0 dX9_isBetter_15 ?_
  refine at_iconst hC ic_0 dX9_isBetter_16 ?_
  refine at_iload_n (j := 4) hC rfl rfl dX9_isBetter_17 ?_
  refine at_mxI hC hR lkm_X9_44 dX9_isBetter_18 (by decide) (Nat.le_of_ble_eq_true rfl) ⟨Nat.le_refl 0, Nat.le_refl 0⟩ ?_
  refine ap_callVI hC hR lk_X9_50 (c_Tr_stepped τ p1 0 (mxI 0 p2)) dX9_isBetter_21 recX9 rfl rfl ⟨by decide, by decide⟩ (Nat.le_of_ble_eq_true rfl) ⟨Nat.le_refl 0, Nat.le_refl 0⟩ (fun r4 _ => ?_)
  refine at_istore (lv' := [(5, .int r4), (4, .int r2), (0, .ref 70), (1, .int p0), (2, .int p1), (3, .int p2)]) hC dX9_isBetter_24 (by decide) rfl ?_
  refine at_iload (j := 1) hC rfl dX9_isBetter_26 ?_
  refine at_iload (j := 0) hC rfl dX9_isBetter_28 ?_
  refine ap_icmp_eq (tgt := 46) hC dX9_isBetter_30 rfl (fun _ => ?_) (fun _ => ?_)
  · refine at_iload_n (j := 3) hC rfl rfl dX9_isBetter_46 ?_
    refine ap_callSI hC hR lk_X9_54 (c_Jd_bitCount τ p0) dX9_isBetter_47 rfl rfl ⟨by decide, by decide⟩ (Nat.le_of_ble_eq_true rfl) ⟨Nat.le_refl 0, Nat.le_refl 0⟩ (fun r5 _ => ?_)
    refine at_iload_n (j := 4) hC rfl rfl dX9_isBetter_50 ?_
    refine ap_callSI hC hR lk_X9_54 (c_Jd_bitCount τ p1) dX9_isBetter_51 rfl rfl ⟨by decide, by decide⟩ (Nat.le_of_ble_eq_true rfl) ⟨Nat.le_refl 0, Nat.le_refl 0⟩ (fun r6 _ => ?_)
    refine ap_icmp_ge (tgt := 61) hC dX9_isBetter_54 rfl (fun _ => ?_) (fun _ => ?_)
    · refine at_iconst hC ic_0 dX9_isBetter_61 ?_
      exact at_zret (F := eqA ad) (ra := rI) hC nb0 dX9_isBetter_62 rfl (Nat.le_refl 0) (Nat.le_refl 0) rfl
    · refine at_iconst hC ic_1 dX9_isBetter_57 ?_
      refine at_goto (tgt := 62) hC dX9_isBetter_58 rfl ?_
      exact at_zret (F := eqA ad) (ra := rI) hC nb1 dX9_isBetter_62 rfl (Nat.le_refl 0) (Nat.le_refl 0) rfl
  · refine at_iload (j := 1) hC rfl dX9_isBetter_33 ?_
    refine at_iload (j := 0) hC rfl dX9_isBetter_35 ?_
    refine ap_icmp_ge (tgt := 44) hC dX9_isBetter_37 rfl (fun _ => ?_) (fun _ => ?_)
    · refine at_iconst hC ic_0 dX9_isBetter_44 ?_
      exact at_zret (F := eqA ad) (ra := rI) hC nb0 dX9_isBetter_45 rfl (Nat.le_refl 0) (Nat.le_refl 0) rfl
    · refine at_iconst hC ic_1 dX9_isBetter_40 ?_
      refine at_goto (tgt := 45) hC dX9_isBetter_41 rfl ?_
      exact at_zret (F := eqA ad) (ra := rI) hC nb1 dX9_isBetter_45 rfl (Nat.le_refl 0) (Nat.le_refl 0) rfl
theorem dX10_seat_0 : decode cX10_seat 0 = .ok (.iload_n 1, 1) := by decide +kernel
theorem dX10_seat_1 : decode cX10_seat 1 = .ok (.ifCond .lt 9, 3) := by decide +kernel
theorem dX10_seat_4 : decode cX10_seat 4 = .ok (.iload_n 1, 1) := by decide +kernel
theorem dX10_seat_5 : decode cX10_seat 5 = .ok (.bipush 10, 2) := by decide +kernel
theorem dX10_seat_7 : decode cX10_seat 7 = .ok (.if_icmp .le 6, 3) := by decide +kernel
theorem dX10_seat_10 : decode cX10_seat 10 = .ok (.bipush (-2), 2) := by decide +kernel
theorem dX10_seat_12 : decode cX10_seat 12 = .ok (.ireturn, 1) := by decide +kernel
theorem dX10_seat_13 : decode cX10_seat 13 = .ok (.aload_n 0, 1) := by decide +kernel
theorem dX10_seat_14 : decode cX10_seat 14 = .ok (.getfield 14, 3) := by decide +kernel
theorem dX10_seat_17 : decode cX10_seat 17 = .ok (.getfield 78, 3) := by decide +kernel
theorem dX10_seat_20 : decode cX10_seat 20 = .ok (.ifCond .eq 6, 3) := by decide +kernel
theorem dX10_seat_23 : decode cX10_seat 23 = .ok (.bipush (-3), 2) := by decide +kernel
theorem dX10_seat_25 : decode cX10_seat 25 = .ok (.ireturn, 1) := by decide +kernel
theorem dX10_seat_26 : decode cX10_seat 26 = .ok (.aload_n 0, 1) := by decide +kernel
theorem dX10_seat_27 : decode cX10_seat 27 = .ok (.getfield 14, 3) := by decide +kernel
theorem dX10_seat_30 : decode cX10_seat 30 = .ok (.getfield 82, 3) := by decide +kernel
theorem dX10_seat_33 : decode cX10_seat 33 = .ok (.istore_n 2, 1) := by decide +kernel
theorem dX10_seat_34 : decode cX10_seat 34 = .ok (.aload_n 0, 1) := by decide +kernel
theorem dX10_seat_35 : decode cX10_seat 35 = .ok (.getfield 14, 3) := by decide +kernel
theorem dX10_seat_38 : decode cX10_seat 38 = .ok (.iload_n 1, 1) := by decide +kernel
theorem dX10_seat_39 : decode cX10_seat 39 = .ok (.putfield 82, 3) := by decide +kernel
theorem dX10_seat_42 : decode cX10_seat 42 = .ok (.iload_n 2, 1) := by decide +kernel
theorem dX10_seat_43 : decode cX10_seat 43 = .ok (.ireturn, 1) := by decide +kernel
set_option maxRecDepth 100000 in
theorem c_W_seat (τ : XS) (p0 : Int32) : Ct z (wX z σ) rI eqA yX10_seat cX10_seat 3 (some .int) 1 0 0 [.ref 36, .int p0] τ (W_seat τ p0) := by
  refine Ct.of (by decide) (Nat.le_of_ble_eq_true rfl) (fun ad x hC hR _ => ?_)
  show AT z x 3 (wX z σ) rI (eqA ad) 0 0 0 0 ad 0 [(0, .ref 36), (1, .int p0)] [] τ (W_seat τ p0)
  unfold W_seat
  refine at_iload_n (j := 1) hC rfl rfl dX10_seat_0 ?_
  refine at_if_lt (tgt := 10) hC dX10_seat_1 rfl (fun _ => ?_) (fun _ => ?_)
  · refine at_bipush hC bi_m2 dX10_seat_10 ?_
    exact at_iret (F := eqA ad) (ra := rI) hC dX10_seat_12 rfl (Nat.le_refl 0) (Nat.le_refl 0) rfl
  · refine at_iload_n (j := 1) hC rfl rfl dX10_seat_4 ?_
    refine at_bipush hC bi_10 dX10_seat_5 ?_
    refine at_icmp_le (tgt := 13) hC dX10_seat_7 rfl (fun _ => ?_) (fun _ => ?_)
    · refine at_aload_n (j := 0) hC rfl rfl dX10_seat_13 ?_
      refine gf_X10_14 hC dX10_seat_14 ?_
      refine gf_X10_78 hC dX10_seat_17 ?_
      refine at_if_eq (tgt := 26) hC dX10_seat_20 rfl (fun _ => ?_) (fun _ => ?_)
      · refine at_aload_n (j := 0) hC rfl rfl dX10_seat_26 ?_
        refine gf_X10_14 hC dX10_seat_27 ?_
        refine gf_X10_82 hC dX10_seat_30 ?_
        refine at_istore_n (lv' := [(2, .int (τ.1 105)), (0, .ref 36), (1, .int p0)]) hC rfl dX10_seat_33 (by decide) rfl ?_
        refine at_aload_n (j := 1) hC rfl rfl dX10_seat_34 ?_
        refine gf_X10_14 hC dX10_seat_35 ?_
        refine at_iload_n (j := 2) hC rfl rfl dX10_seat_38 ?_
        refine pf_X10_82 hC dX10_seat_39 ?_
        refine at_iload_n (j := 0) hC rfl rfl dX10_seat_42 ?_
        exact at_iret (F := eqA ad) (ra := rI) hC dX10_seat_43 rfl (Nat.le_refl 0) (Nat.le_refl 0) rfl
      · refine at_bipush hC bi_m3 dX10_seat_23 ?_
        exact at_iret (F := eqA ad) (ra := rI) hC dX10_seat_25 rfl (Nat.le_refl 0) (Nat.le_refl 0) rfl
    · refine at_bipush hC bi_m2 dX10_seat_10 ?_
      exact at_iret (F := eqA ad) (ra := rI) hC dX10_seat_12 rfl (Nat.le_refl 0) (Nat.le_refl 0) rfl
theorem dX10_isDay_0 : decode cX10_isDay 0 = .ok (.iload_n 0, 1) := by decide +kernel
theorem dX10_isDay_1 : decode cX10_isDay 1 = .ok (.ifCond .lt 14, 3) := by decide +kernel
theorem dX10_isDay_4 : decode cX10_isDay 4 = .ok (.iload_n 0, 1) := by decide +kernel
theorem dX10_isDay_5 : decode cX10_isDay 5 = .ok (.sipush 10000, 3) := by decide +kernel
theorem dX10_isDay_8 : decode cX10_isDay 8 = .ok (.if_icmp .ge 7, 3) := by decide +kernel
theorem dX10_isDay_11 : decode cX10_isDay 11 = .ok (.iconst 1, 1) := by decide +kernel
theorem dX10_isDay_12 : decode cX10_isDay 12 = .ok (.goto 4, 3) := by decide +kernel
theorem dX10_isDay_15 : decode cX10_isDay 15 = .ok (.iconst 0, 1) := by decide +kernel
theorem dX10_isDay_16 : decode cX10_isDay 16 = .ok (.ireturn, 1) := by decide +kernel
set_option maxRecDepth 100000 in
theorem c_W_isDay (τ : XS) (p0 : Int32) : Ct z (wX z σ) rI eqA yX10_isDay cX10_isDay 1 (some .boolean) 1 0 0 [.int p0] τ ((W_isDay τ p0).map fun r => (r, τ)) := by
  refine Ct.of (by decide) (Nat.le_of_ble_eq_true rfl) (fun ad x hC hR _ => ?_)
  show AT z x 1 (wX z σ) rI (eqA ad) 0 0 0 0 ad 0 [(0, .int p0)] [] τ ((W_isDay τ p0).map fun r => (r, τ))
  unfold W_isDay
  refine at_iload_n (j := 0) hC rfl rfl dX10_isDay_0 ?_
  refine ap_if_lt (tgt := 15) hC dX10_isDay_1 rfl (fun _ => ?_) (fun _ => ?_)
  · refine at_iconst hC ic_0 dX10_isDay_15 ?_
    exact at_zret (F := eqA ad) (ra := rI) hC nb0 dX10_isDay_16 rfl (Nat.le_refl 0) (Nat.le_refl 0) rfl
  · refine at_iload_n (j := 0) hC rfl rfl dX10_isDay_4 ?_
    refine at_sipush hC si_10000 dX10_isDay_5 ?_
    refine ap_icmp_ge (tgt := 15) hC dX10_isDay_8 rfl (fun _ => ?_) (fun _ => ?_)
    · refine at_iconst hC ic_0 dX10_isDay_15 ?_
      exact at_zret (F := eqA ad) (ra := rI) hC nb0 dX10_isDay_16 rfl (Nat.le_refl 0) (Nat.le_refl 0) rfl
    · refine at_iconst hC ic_1 dX10_isDay_11 ?_
      refine at_goto (tgt := 16) hC dX10_isDay_12 rfl ?_
      exact at_zret (F := eqA ad) (ra := rI) hC nb1 dX10_isDay_16 rfl (Nat.le_refl 0) (Nat.le_refl 0) rfl
theorem dX10_person_0 : decode cX10_person 0 = .ok (.iload_n 3, 1) := by decide +kernel
theorem dX10_person_1 : decode cX10_person 1 = .ok (.iconst (-1), 1) := by decide +kernel
theorem dX10_person_2 : decode cX10_person 2 = .ok (.if_icmp .eq 16, 3) := by decide +kernel
theorem dX10_person_5 : decode cX10_person 5 = .ok (.aload_n 0, 1) := by decide +kernel
theorem dX10_person_6 : decode cX10_person 6 = .ok (.getfield 14, 3) := by decide +kernel
theorem dX10_person_9 : decode cX10_person 9 = .ok (.iload_n 3, 1) := by decide +kernel
theorem dX10_person_10 : decode cX10_person 10 = .ok (.invokevirtual 86, 3) := by decide +kernel
theorem dX10_person_13 : decode cX10_person 13 = .ok (.ifCond .ne 5, 3) := by decide +kernel
theorem dX10_person_16 : decode cX10_person 16 = .ok (.iconst (-1), 1) := by decide +kernel
theorem dX10_person_17 : decode cX10_person 17 = .ok (.ireturn, 1) := by decide +kernel
theorem dX10_person_18 : decode cX10_person 18 = .ok (.iload 4, 2) := by decide +kernel
theorem dX10_person_20 : decode cX10_person 20 = .ok (.iconst (-1), 1) := by decide +kernel
theorem dX10_person_21 : decode cX10_person 21 = .ok (.if_icmp .eq 17, 3) := by decide +kernel
theorem dX10_person_24 : decode cX10_person 24 = .ok (.aload_n 0, 1) := by decide +kernel
theorem dX10_person_25 : decode cX10_person 25 = .ok (.getfield 14, 3) := by decide +kernel
theorem dX10_person_28 : decode cX10_person 28 = .ok (.iload 4, 2) := by decide +kernel
theorem dX10_person_30 : decode cX10_person 30 = .ok (.invokevirtual 90, 3) := by decide +kernel
theorem dX10_person_33 : decode cX10_person 33 = .ok (.ifCond .ne 5, 3) := by decide +kernel
theorem dX10_person_36 : decode cX10_person 36 = .ok (.iconst (-1), 1) := by decide +kernel
theorem dX10_person_37 : decode cX10_person 37 = .ok (.ireturn, 1) := by decide +kernel
theorem dX10_person_38 : decode cX10_person 38 = .ok (.iload_n 1, 1) := by decide +kernel
theorem dX10_person_39 : decode cX10_person 39 = .ok (.ifCond .lt 15, 3) := by decide +kernel
theorem dX10_person_42 : decode cX10_person 42 = .ok (.iload_n 1, 1) := by decide +kernel
theorem dX10_person_43 : decode cX10_person 43 = .ok (.iconst 1, 1) := by decide +kernel
theorem dX10_person_44 : decode cX10_person 44 = .ok (.if_icmp .gt 10, 3) := by decide +kernel
theorem dX10_person_47 : decode cX10_person 47 = .ok (.iload_n 2, 1) := by decide +kernel
theorem dX10_person_48 : decode cX10_person 48 = .ok (.invokestatic 93, 3) := by decide +kernel
theorem dX10_person_51 : decode cX10_person 51 = .ok (.ifCond .ne 6, 3) := by decide +kernel
theorem dX10_person_54 : decode cX10_person 54 = .ok (.bipush (-2), 2) := by decide +kernel
theorem dX10_person_56 : decode cX10_person 56 = .ok (.ireturn, 1) := by decide +kernel
theorem dX10_person_57 : decode cX10_person 57 = .ok (.iload_n 3, 1) := by decide +kernel
theorem dX10_person_58 : decode cX10_person 58 = .ok (.iconst (-1), 1) := by decide +kernel
theorem dX10_person_59 : decode cX10_person 59 = .ok (.if_icmp .eq 19, 3) := by decide +kernel
theorem dX10_person_62 : decode cX10_person 62 = .ok (.iload_n 2, 1) := by decide +kernel
theorem dX10_person_63 : decode cX10_person 63 = .ok (.aload_n 0, 1) := by decide +kernel
theorem dX10_person_64 : decode cX10_person 64 = .ok (.getfield 14, 3) := by decide +kernel
theorem dX10_person_67 : decode cX10_person 67 = .ok (.getfield 96, 3) := by decide +kernel
theorem dX10_person_70 : decode cX10_person 70 = .ok (.iload_n 3, 1) := by decide +kernel
theorem dX10_person_71 : decode cX10_person 71 = .ok (.iaload, 1) := by decide +kernel
theorem dX10_person_72 : decode cX10_person 72 = .ok (.if_icmp .gt 6, 3) := by decide +kernel
theorem dX10_person_75 : decode cX10_person 75 = .ok (.bipush (-2), 2) := by decide +kernel
theorem dX10_person_77 : decode cX10_person 77 = .ok (.ireturn, 1) := by decide +kernel
theorem dX10_person_78 : decode cX10_person 78 = .ok (.iload 4, 2) := by decide +kernel
theorem dX10_person_80 : decode cX10_person 80 = .ok (.iconst (-1), 1) := by decide +kernel
theorem dX10_person_81 : decode cX10_person 81 = .ok (.if_icmp .eq 20, 3) := by decide +kernel
theorem dX10_person_84 : decode cX10_person 84 = .ok (.iload_n 2, 1) := by decide +kernel
theorem dX10_person_85 : decode cX10_person 85 = .ok (.aload_n 0, 1) := by decide +kernel
theorem dX10_person_86 : decode cX10_person 86 = .ok (.getfield 14, 3) := by decide +kernel
theorem dX10_person_89 : decode cX10_person 89 = .ok (.getfield 96, 3) := by decide +kernel
theorem dX10_person_92 : decode cX10_person 92 = .ok (.iload 4, 2) := by decide +kernel
theorem dX10_person_94 : decode cX10_person 94 = .ok (.iaload, 1) := by decide +kernel
theorem dX10_person_95 : decode cX10_person 95 = .ok (.if_icmp .gt 6, 3) := by decide +kernel
theorem dX10_person_98 : decode cX10_person 98 = .ok (.bipush (-2), 2) := by decide +kernel
theorem dX10_person_100 : decode cX10_person 100 = .ok (.ireturn, 1) := by decide +kernel
theorem dX10_person_101 : decode cX10_person 101 = .ok (.aload_n 0, 1) := by decide +kernel
theorem dX10_person_102 : decode cX10_person 102 = .ok (.getfield 14, 3) := by decide +kernel
theorem dX10_person_105 : decode cX10_person 105 = .ok (.getfield 100, 3) := by decide +kernel
theorem dX10_person_108 : decode cX10_person 108 = .ok (.bipush 24, 2) := by decide +kernel
theorem dX10_person_110 : decode cX10_person 110 = .ok (.if_icmp .lt 6, 3) := by decide +kernel
theorem dX10_person_113 : decode cX10_person 113 = .ok (.bipush (-4), 2) := by decide +kernel
theorem dX10_person_115 : decode cX10_person 115 = .ok (.ireturn, 1) := by decide +kernel
theorem dX10_person_116 : decode cX10_person 116 = .ok (.aload_n 0, 1) := by decide +kernel
theorem dX10_person_117 : decode cX10_person 117 = .ok (.getfield 14, 3) := by decide +kernel
theorem dX10_person_120 : decode cX10_person 120 = .ok (.iload_n 1, 1) := by decide +kernel
theorem dX10_person_121 : decode cX10_person 121 = .ok (.iload_n 2, 1) := by decide +kernel
theorem dX10_person_122 : decode cX10_person 122 = .ok (.iload_n 3, 1) := by decide +kernel
theorem dX10_person_123 : decode cX10_person 123 = .ok (.iload 4, 2) := by decide +kernel
theorem dX10_person_125 : decode cX10_person 125 = .ok (.invokevirtual 103, 3) := by decide +kernel
theorem dX10_person_128 : decode cX10_person 128 = .ok (.ireturn, 1) := by decide +kernel
set_option maxRecDepth 100000 in
theorem t_W_person_J101 (hC : CX z ad x cX10_person RX10 5 (some .int)) (hR : x.2.2.1 = rmk 3 0 0) (τ : XS) (a1 : Int32) (a2 : Int32) (a3 : Int32) (a4 : Int32) : AT z x 5 (wX z σ) rI (eqA ad) 0 0 0 0 ad 101 [(0, .ref 36), (1, .int a1), (2, .int a2), (3, .int a3), (4, .int a4)] [] τ (W_person_J101 τ a1 a2 a3 a4) := by
  unfold W_person_J101
  refine at_aload_n (j := 0) hC rfl rfl dX10_person_101 ?_
  refine gf_X10_14 hC dX10_person_102 ?_
  refine gf_X10_100 hC dX10_person_105 ?_
  refine at_bipush hC bi_24 dX10_person_108 ?_
  refine at_icmp_lt (tgt := 116) hC dX10_person_110 rfl (fun _ => ?_) (fun _ => ?_)
  · refine at_aload_n (j := 0) hC rfl rfl dX10_person_116 ?_
    refine gf_X10_14 hC dX10_person_117 ?_
    refine at_iload_n (j := 1) hC rfl rfl dX10_person_120 ?_
    refine at_iload_n (j := 2) hC rfl rfl dX10_person_121 ?_
    refine at_iload_n (j := 3) hC rfl rfl dX10_person_122 ?_
    refine at_iload (j := 4) hC rfl dX10_person_123 ?_
    refine at_callVI hC hR lk_X10_103 (c_Bk_addPerson τ a1 a2 a3 a4) dX10_person_125 recX1 rfl rfl ⟨by decide, by decide⟩ (Nat.le_of_ble_eq_true rfl) ⟨Nat.le_refl 0, Nat.le_refl 0⟩ (fun r2 r2s _ => ?_)
    exact at_iret (F := eqA ad) (ra := rI) hC dX10_person_128 rfl (Nat.le_refl 0) (Nat.le_refl 0) rfl
  · refine at_bipush hC bi_m4 dX10_person_113 ?_
    exact at_iret (F := eqA ad) (ra := rI) hC dX10_person_115 rfl (Nat.le_refl 0) (Nat.le_refl 0) rfl
set_option maxRecDepth 100000 in
theorem t_W_person_J78 (hC : CX z ad x cX10_person RX10 5 (some .int)) (hR : x.2.2.1 = rmk 3 0 0) (τ : XS) (a1 : Int32) (a2 : Int32) (a3 : Int32) (a4 : Int32) : AT z x 5 (wX z σ) rI (eqA ad) 0 0 0 0 ad 78 [(0, .ref 36), (1, .int a1), (2, .int a2), (3, .int a3), (4, .int a4)] [] τ (W_person_J78 τ a1 a2 a3 a4) := by
  unfold W_person_J78
  refine at_iload (j := 4) hC rfl dX10_person_78 ?_
  refine at_iconst hC ic_m1 dX10_person_80 ?_
  refine at_icmp_eq (tgt := 101) hC dX10_person_81 rfl (fun _ => ?_) (fun _ => ?_)
  · exact t_W_person_J101 hC hR τ a1 a2 a3 a4
  · refine at_iload_n (j := 2) hC rfl rfl dX10_person_84 ?_
    refine at_aload_n (j := 0) hC rfl rfl dX10_person_85 ?_
    refine gf_X10_14 hC dX10_person_86 ?_
    refine gf_X10_96 hC dX10_person_89 ?_
    refine at_iload (j := 4) hC rfl dX10_person_92 ?_
    refine at_iald hC 39 dX10_person_94 cl_39 (fun v3 => ?_)
    refine at_icmp_gt (tgt := 101) hC dX10_person_95 rfl (fun _ => ?_) (fun _ => ?_)
    · exact t_W_person_J101 hC hR τ a1 a2 a3 a4
    · refine at_bipush hC bi_m2 dX10_person_98 ?_
      exact at_iret (F := eqA ad) (ra := rI) hC dX10_person_100 rfl (Nat.le_refl 0) (Nat.le_refl 0) rfl
set_option maxRecDepth 100000 in
theorem t_W_person_J38 (hC : CX z ad x cX10_person RX10 5 (some .int)) (hR : x.2.2.1 = rmk 3 0 0) (τ : XS) (a1 : Int32) (a2 : Int32) (a3 : Int32) (a4 : Int32) : AT z x 5 (wX z σ) rI (eqA ad) 0 0 0 0 ad 38 [(0, .ref 36), (1, .int a1), (2, .int a2), (3, .int a3), (4, .int a4)] [] τ (W_person_J38 τ a1 a2 a3 a4) := by
  unfold W_person_J38
  refine at_iload_n (j := 1) hC rfl rfl dX10_person_38 ?_
  refine at_if_lt (tgt := 54) hC dX10_person_39 rfl (fun _ => ?_) (fun _ => ?_)
  · refine at_bipush hC bi_m2 dX10_person_54 ?_
    exact at_iret (F := eqA ad) (ra := rI) hC dX10_person_56 rfl (Nat.le_refl 0) (Nat.le_refl 0) rfl
  · refine at_iload_n (j := 1) hC rfl rfl dX10_person_42 ?_
    refine at_iconst hC ic_1 dX10_person_43 ?_
    refine at_icmp_gt (tgt := 54) hC dX10_person_44 rfl (fun _ => ?_) (fun _ => ?_)
    · refine at_bipush hC bi_m2 dX10_person_54 ?_
      exact at_iret (F := eqA ad) (ra := rI) hC dX10_person_56 rfl (Nat.le_refl 0) (Nat.le_refl 0) rfl
    · refine at_iload_n (j := 2) hC rfl rfl dX10_person_47 ?_
      refine at_callSpI hC hR lk_X10_93 (c_W_isDay τ a2) dX10_person_48 rfl rfl ⟨by decide, by decide⟩ (Nat.le_of_ble_eq_true rfl) ⟨Nat.le_refl 0, Nat.le_refl 0⟩ (fun r1 _ => ?_)
      refine at_if_ne (tgt := 57) hC dX10_person_51 rfl (fun _ => ?_) (fun _ => ?_)
      · refine at_iload_n (j := 3) hC rfl rfl dX10_person_57 ?_
        refine at_iconst hC ic_m1 dX10_person_58 ?_
        refine at_icmp_eq (tgt := 78) hC dX10_person_59 rfl (fun _ => ?_) (fun _ => ?_)
        · exact t_W_person_J78 hC hR τ a1 a2 a3 a4
        · refine at_iload_n (j := 2) hC rfl rfl dX10_person_62 ?_
          refine at_aload_n (j := 0) hC rfl rfl dX10_person_63 ?_
          refine gf_X10_14 hC dX10_person_64 ?_
          refine gf_X10_96 hC dX10_person_67 ?_
          refine at_iload_n (j := 3) hC rfl rfl dX10_person_70 ?_
          refine at_iald hC 39 dX10_person_71 cl_39 (fun v4 => ?_)
          refine at_icmp_gt (tgt := 78) hC dX10_person_72 rfl (fun _ => ?_) (fun _ => ?_)
          · exact t_W_person_J78 hC hR τ a1 a2 a3 a4
          · refine at_bipush hC bi_m2 dX10_person_75 ?_
            exact at_iret (F := eqA ad) (ra := rI) hC dX10_person_77 rfl (Nat.le_refl 0) (Nat.le_refl 0) rfl
      · refine at_bipush hC bi_m2 dX10_person_54 ?_
        exact at_iret (F := eqA ad) (ra := rI) hC dX10_person_56 rfl (Nat.le_refl 0) (Nat.le_refl 0) rfl
set_option maxRecDepth 100000 in
theorem t_W_person_J18 (hC : CX z ad x cX10_person RX10 5 (some .int)) (hR : x.2.2.1 = rmk 3 0 0) (τ : XS) (a1 : Int32) (a2 : Int32) (a3 : Int32) (a4 : Int32) : AT z x 5 (wX z σ) rI (eqA ad) 0 0 0 0 ad 18 [(0, .ref 36), (1, .int a1), (2, .int a2), (3, .int a3), (4, .int a4)] [] τ (W_person_J18 τ a1 a2 a3 a4) := by
  unfold W_person_J18
  refine at_iload (j := 4) hC rfl dX10_person_18 ?_
  refine at_iconst hC ic_m1 dX10_person_20 ?_
  refine at_icmp_eq (tgt := 38) hC dX10_person_21 rfl (fun _ => ?_) (fun _ => ?_)
  · exact t_W_person_J38 hC hR τ a1 a2 a3 a4
  · refine at_aload_n (j := 0) hC rfl rfl dX10_person_24 ?_
    refine gf_X10_14 hC dX10_person_25 ?_
    refine at_iload (j := 4) hC rfl dX10_person_28 ?_
    refine at_callVpI hC hR lk_X10_90 (c_Bk_isWoman τ a4) dX10_person_30 recX1 rfl rfl ⟨by decide, by decide⟩ (Nat.le_of_ble_eq_true rfl) ⟨Nat.le_refl 0, Nat.le_refl 0⟩ (fun r5 _ => ?_)
    refine at_if_ne (tgt := 38) hC dX10_person_33 rfl (fun _ => ?_) (fun _ => ?_)
    · exact t_W_person_J38 hC hR τ a1 a2 a3 a4
    · refine at_iconst hC ic_m1 dX10_person_36 ?_
      exact at_iret (F := eqA ad) (ra := rI) hC dX10_person_37 rfl (Nat.le_refl 0) (Nat.le_refl 0) rfl
set_option maxRecDepth 100000 in
theorem c_W_person (τ : XS) (p0 : Int32) (p1 : Int32) (p2 : Int32) (p3 : Int32) : Ct z (wX z σ) rI eqA yX10_person cX10_person 5 (some .int) 3 0 0 [.ref 36, .int p0, .int p1, .int p2, .int p3] τ (W_person τ p0 p1 p2 p3) := by
  refine Ct.of (by decide) (Nat.le_of_ble_eq_true rfl) (fun ad x hC hR _ => ?_)
  show AT z x 5 (wX z σ) rI (eqA ad) 0 0 0 0 ad 0 [(0, .ref 36), (1, .int p0), (2, .int p1), (3, .int p2), (4, .int p3)] [] τ (W_person τ p0 p1 p2 p3)
  unfold W_person
  refine at_iload_n (j := 3) hC rfl rfl dX10_person_0 ?_
  refine at_iconst hC ic_m1 dX10_person_1 ?_
  refine at_icmp_eq (tgt := 18) hC dX10_person_2 rfl (fun _ => ?_) (fun _ => ?_)
  · exact t_W_person_J18 hC hR τ p0 p1 p2 p3
  · refine at_aload_n (j := 0) hC rfl rfl dX10_person_5 ?_
    refine gf_X10_14 hC dX10_person_6 ?_
    refine at_iload_n (j := 3) hC rfl rfl dX10_person_9 ?_
    refine at_callVpI hC hR lk_X10_86 (c_Bk_isMan τ p2) dX10_person_10 recX1 rfl rfl ⟨by decide, by decide⟩ (Nat.le_of_ble_eq_true rfl) ⟨Nat.le_refl 0, Nat.le_refl 0⟩ (fun r6 _ => ?_)
    refine at_if_ne (tgt := 18) hC dX10_person_13 rfl (fun _ => ?_) (fun _ => ?_)
    · exact t_W_person_J18 hC hR τ p0 p1 p2 p3
    · refine at_iconst hC ic_m1 dX10_person_16 ?_
      exact at_iret (F := eqA ad) (ra := rI) hC dX10_person_17 rfl (Nat.le_refl 0) (Nat.le_refl 0) rfl
theorem dX10_birth_0 : decode cX10_birth 0 = .ok (.aload_n 0, 1) := by decide +kernel
theorem dX10_birth_1 : decode cX10_birth 1 = .ok (.getfield 14, 3) := by decide +kernel
theorem dX10_birth_4 : decode cX10_birth 4 = .ok (.iload_n 1, 1) := by decide +kernel
theorem dX10_birth_5 : decode cX10_birth 5 = .ok (.invokevirtual 107, 3) := by decide +kernel
theorem dX10_birth_8 : decode cX10_birth 8 = .ok (.ifCond .ne 5, 3) := by decide +kernel
theorem dX10_birth_11 : decode cX10_birth 11 = .ok (.iconst (-1), 1) := by decide +kernel
theorem dX10_birth_12 : decode cX10_birth 12 = .ok (.ireturn, 1) := by decide +kernel
theorem dX10_birth_13 : decode cX10_birth 13 = .ok (.iload_n 2, 1) := by decide +kernel
theorem dX10_birth_14 : decode cX10_birth 14 = .ok (.tableswitch 70 0 3 #[30, 40, 50, 60], 30) := by decide +kernel
theorem dX10_birth_44 : decode cX10_birth 44 = .ok (.aload_n 0, 1) := by decide +kernel
theorem dX10_birth_45 : decode cX10_birth 45 = .ok (.getfield 14, 3) := by decide +kernel
theorem dX10_birth_48 : decode cX10_birth 48 = .ok (.getfield 110, 3) := by decide +kernel
theorem dX10_birth_51 : decode cX10_birth 51 = .ok (.iload_n 1, 1) := by decide +kernel
theorem dX10_birth_52 : decode cX10_birth 52 = .ok (.iaload, 1) := by decide +kernel
theorem dX10_birth_53 : decode cX10_birth 53 = .ok (.ireturn, 1) := by decide +kernel
theorem dX10_birth_54 : decode cX10_birth 54 = .ok (.aload_n 0, 1) := by decide +kernel
theorem dX10_birth_55 : decode cX10_birth 55 = .ok (.getfield 14, 3) := by decide +kernel
theorem dX10_birth_58 : decode cX10_birth 58 = .ok (.getfield 96, 3) := by decide +kernel
theorem dX10_birth_61 : decode cX10_birth 61 = .ok (.iload_n 1, 1) := by decide +kernel
theorem dX10_birth_62 : decode cX10_birth 62 = .ok (.iaload, 1) := by decide +kernel
theorem dX10_birth_63 : decode cX10_birth 63 = .ok (.ireturn, 1) := by decide +kernel
theorem dX10_birth_64 : decode cX10_birth 64 = .ok (.aload_n 0, 1) := by decide +kernel
theorem dX10_birth_65 : decode cX10_birth 65 = .ok (.getfield 14, 3) := by decide +kernel
theorem dX10_birth_68 : decode cX10_birth 68 = .ok (.getfield 113, 3) := by decide +kernel
theorem dX10_birth_71 : decode cX10_birth 71 = .ok (.iload_n 1, 1) := by decide +kernel
theorem dX10_birth_72 : decode cX10_birth 72 = .ok (.iaload, 1) := by decide +kernel
theorem dX10_birth_73 : decode cX10_birth 73 = .ok (.ireturn, 1) := by decide +kernel
theorem dX10_birth_74 : decode cX10_birth 74 = .ok (.aload_n 0, 1) := by decide +kernel
theorem dX10_birth_75 : decode cX10_birth 75 = .ok (.getfield 14, 3) := by decide +kernel
theorem dX10_birth_78 : decode cX10_birth 78 = .ok (.getfield 116, 3) := by decide +kernel
theorem dX10_birth_81 : decode cX10_birth 81 = .ok (.iload_n 1, 1) := by decide +kernel
theorem dX10_birth_82 : decode cX10_birth 82 = .ok (.iaload, 1) := by decide +kernel
theorem dX10_birth_83 : decode cX10_birth 83 = .ok (.ireturn, 1) := by decide +kernel
theorem dX10_birth_84 : decode cX10_birth 84 = .ok (.iconst (-1), 1) := by decide +kernel
theorem dX10_birth_85 : decode cX10_birth 85 = .ok (.ireturn, 1) := by decide +kernel
set_option maxRecDepth 100000 in
theorem c_W_birth (τ : XS) (p0 : Int32) (p1 : Int32) : Ct z (wX z σ) rI eqA yX10_birth cX10_birth 3 (some .int) 2 0 0 [.ref 36, .int p0, .int p1] τ ((W_birth τ p0 p1).map fun r => (r, τ)) := by
  refine Ct.of (by decide) (Nat.le_of_ble_eq_true rfl) (fun ad x hC hR _ => ?_)
  show AT z x 3 (wX z σ) rI (eqA ad) 0 0 0 0 ad 0 [(0, .ref 36), (1, .int p0), (2, .int p1)] [] τ ((W_birth τ p0 p1).map fun r => (r, τ))
  unfold W_birth
  refine at_aload_n (j := 0) hC rfl rfl dX10_birth_0 ?_
  refine gf_X10_14 hC dX10_birth_1 ?_
  refine at_iload_n (j := 1) hC rfl rfl dX10_birth_4 ?_
  refine ap_callVI hC hR lk_X10_107 (c_Bk_isPerson τ p0) dX10_birth_5 recX1 rfl rfl ⟨by decide, by decide⟩ (Nat.le_of_ble_eq_true rfl) ⟨Nat.le_refl 0, Nat.le_refl 0⟩ (fun r1 _ => ?_)
  refine ap_if_ne (tgt := 13) hC dX10_birth_8 rfl (fun _ => ?_) (fun _ => ?_)
  · refine at_iload_n (j := 2) hC rfl rfl dX10_birth_13 ?_
    refine ap_sw (off := 30) (tgt := 44) (v := 0) hC 0 dX10_birth_14 rfl rfl (by decide) (by decide) swp0 ?_ (fun hp0 => ?_)
    · refine at_aload_n (j := 0) hC rfl rfl dX10_birth_44 ?_
      refine gf_X10_14 hC dX10_birth_45 ?_
      refine gf_X10_110 hC dX10_birth_48 ?_
      refine at_iload_n (j := 1) hC rfl rfl dX10_birth_51 ?_
      refine ap_iald hC 38 dX10_birth_52 cl_38 (fun v2 => ?_)
      exact at_iret (F := eqA ad) (ra := rI) hC dX10_birth_53 rfl (Nat.le_refl 0) (Nat.le_refl 0) rfl
    refine ap_sw (off := 40) (tgt := 54) (v := 1) hC 1 dX10_birth_14 rfl rfl (by decide) (by decide) hp0 ?_ (fun hp1 => ?_)
    · refine at_aload_n (j := 0) hC rfl rfl dX10_birth_54 ?_
      refine gf_X10_14 hC dX10_birth_55 ?_
      refine gf_X10_96 hC dX10_birth_58 ?_
      refine at_iload_n (j := 1) hC rfl rfl dX10_birth_61 ?_
      refine ap_iald hC 39 dX10_birth_62 cl_39 (fun v3 => ?_)
      exact at_iret (F := eqA ad) (ra := rI) hC dX10_birth_63 rfl (Nat.le_refl 0) (Nat.le_refl 0) rfl
    refine ap_sw (off := 50) (tgt := 64) (v := 2) hC 2 dX10_birth_14 rfl rfl (by decide) (by decide) hp1 ?_ (fun hp2 => ?_)
    · refine at_aload_n (j := 0) hC rfl rfl dX10_birth_64 ?_
      refine gf_X10_14 hC dX10_birth_65 ?_
      refine gf_X10_113 hC dX10_birth_68 ?_
      refine at_iload_n (j := 1) hC rfl rfl dX10_birth_71 ?_
      refine ap_iald hC 40 dX10_birth_72 cl_40 (fun v4 => ?_)
      exact at_iret (F := eqA ad) (ra := rI) hC dX10_birth_73 rfl (Nat.le_refl 0) (Nat.le_refl 0) rfl
    refine ap_sw (off := 60) (tgt := 74) (v := 3) hC 3 dX10_birth_14 rfl rfl (by decide) (by decide) hp2 ?_ (fun hp3 => ?_)
    · refine at_aload_n (j := 0) hC rfl rfl dX10_birth_74 ?_
      refine gf_X10_14 hC dX10_birth_75 ?_
      refine gf_X10_116 hC dX10_birth_78 ?_
      refine at_iload_n (j := 1) hC rfl rfl dX10_birth_81 ?_
      refine ap_iald hC 41 dX10_birth_82 cl_41 (fun v5 => ?_)
      exact at_iret (F := eqA ad) (ra := rI) hC dX10_birth_83 rfl (Nat.le_refl 0) (Nat.le_refl 0) rfl
    refine at_swd (tgt := 84) hC 4 dX10_birth_14 rfl (by decide) hp3 ?_
    refine at_iconst hC ic_m1 dX10_birth_84 ?_
    exact at_iret (F := eqA ad) (ra := rI) hC dX10_birth_85 rfl (Nat.le_refl 0) (Nat.le_refl 0) rfl
  · refine at_iconst hC ic_m1 dX10_birth_11 ?_
    exact at_iret (F := eqA ad) (ra := rI) hC dX10_birth_12 rfl (Nat.le_refl 0) (Nat.le_refl 0) rfl
theorem dX10_wed_0 : decode cX10_wed 0 = .ok (.aload_n 0, 1) := by decide +kernel
theorem dX10_wed_1 : decode cX10_wed 1 = .ok (.getfield 14, 3) := by decide +kernel
theorem dX10_wed_4 : decode cX10_wed 4 = .ok (.iload_n 1, 1) := by decide +kernel
theorem dX10_wed_5 : decode cX10_wed 5 = .ok (.invokevirtual 107, 3) := by decide +kernel
theorem dX10_wed_8 : decode cX10_wed 8 = .ok (.ifCond .eq 14, 3) := by decide +kernel
theorem dX10_wed_11 : decode cX10_wed 11 = .ok (.aload_n 0, 1) := by decide +kernel
theorem dX10_wed_12 : decode cX10_wed 12 = .ok (.getfield 14, 3) := by decide +kernel
theorem dX10_wed_15 : decode cX10_wed 15 = .ok (.iload_n 2, 1) := by decide +kernel
theorem dX10_wed_16 : decode cX10_wed 16 = .ok (.invokevirtual 107, 3) := by decide +kernel
theorem dX10_wed_19 : decode cX10_wed 19 = .ok (.ifCond .ne 5, 3) := by decide +kernel
theorem dX10_wed_22 : decode cX10_wed 22 = .ok (.iconst (-1), 1) := by decide +kernel
theorem dX10_wed_23 : decode cX10_wed 23 = .ok (.ireturn, 1) := by decide +kernel
theorem dX10_wed_24 : decode cX10_wed 24 = .ok (.iload_n 3, 1) := by decide +kernel
theorem dX10_wed_25 : decode cX10_wed 25 = .ok (.invokestatic 93, 3) := by decide +kernel
theorem dX10_wed_28 : decode cX10_wed 28 = .ok (.ifCond .eq 25, 3) := by decide +kernel
theorem dX10_wed_31 : decode cX10_wed 31 = .ok (.aload_n 0, 1) := by decide +kernel
theorem dX10_wed_32 : decode cX10_wed 32 = .ok (.getfield 14, 3) := by decide +kernel
theorem dX10_wed_35 : decode cX10_wed 35 = .ok (.iload_n 1, 1) := by decide +kernel
theorem dX10_wed_36 : decode cX10_wed 36 = .ok (.invokevirtual 86, 3) := by decide +kernel
theorem dX10_wed_39 : decode cX10_wed 39 = .ok (.ifCond .eq 14, 3) := by decide +kernel
theorem dX10_wed_42 : decode cX10_wed 42 = .ok (.aload_n 0, 1) := by decide +kernel
theorem dX10_wed_43 : decode cX10_wed 43 = .ok (.getfield 14, 3) := by decide +kernel
theorem dX10_wed_46 : decode cX10_wed 46 = .ok (.iload_n 2, 1) := by decide +kernel
theorem dX10_wed_47 : decode cX10_wed 47 = .ok (.invokevirtual 90, 3) := by decide +kernel
theorem dX10_wed_50 : decode cX10_wed 50 = .ok (.ifCond .ne 6, 3) := by decide +kernel
theorem dX10_wed_53 : decode cX10_wed 53 = .ok (.bipush (-2), 2) := by decide +kernel
theorem dX10_wed_55 : decode cX10_wed 55 = .ok (.ireturn, 1) := by decide +kernel
theorem dX10_wed_56 : decode cX10_wed 56 = .ok (.aload_n 0, 1) := by decide +kernel
theorem dX10_wed_57 : decode cX10_wed 57 = .ok (.getfield 23, 3) := by decide +kernel
theorem dX10_wed_60 : decode cX10_wed 60 = .ok (.iconst (-1), 1) := by decide +kernel
theorem dX10_wed_61 : decode cX10_wed 61 = .ok (.invokevirtual 119, 3) := by decide +kernel
theorem dX10_wed_64 : decode cX10_wed 64 = .ok (.aload_n 0, 1) := by decide +kernel
theorem dX10_wed_65 : decode cX10_wed 65 = .ok (.getfield 23, 3) := by decide +kernel
theorem dX10_wed_68 : decode cX10_wed 68 = .ok (.iload_n 1, 1) := by decide +kernel
theorem dX10_wed_69 : decode cX10_wed 69 = .ok (.iload_n 3, 1) := by decide +kernel
theorem dX10_wed_70 : decode cX10_wed 70 = .ok (.invokevirtual 123, 3) := by decide +kernel
theorem dX10_wed_73 : decode cX10_wed 73 = .ok (.ifCond .eq 15, 3) := by decide +kernel
theorem dX10_wed_76 : decode cX10_wed 76 = .ok (.aload_n 0, 1) := by decide +kernel
theorem dX10_wed_77 : decode cX10_wed 77 = .ok (.getfield 23, 3) := by decide +kernel
theorem dX10_wed_80 : decode cX10_wed 80 = .ok (.iload_n 2, 1) := by decide +kernel
theorem dX10_wed_81 : decode cX10_wed 81 = .ok (.iload_n 3, 1) := by decide +kernel
theorem dX10_wed_82 : decode cX10_wed 82 = .ok (.invokevirtual 123, 3) := by decide +kernel
theorem dX10_wed_85 : decode cX10_wed 85 = .ok (.ifCond .ne 6, 3) := by decide +kernel
theorem dX10_wed_88 : decode cX10_wed 88 = .ok (.bipush (-3), 2) := by decide +kernel
theorem dX10_wed_90 : decode cX10_wed 90 = .ok (.ireturn, 1) := by decide +kernel
theorem dX10_wed_91 : decode cX10_wed 91 = .ok (.aload_n 0, 1) := by decide +kernel
theorem dX10_wed_92 : decode cX10_wed 92 = .ok (.getfield 23, 3) := by decide +kernel
theorem dX10_wed_95 : decode cX10_wed 95 = .ok (.iload_n 1, 1) := by decide +kernel
theorem dX10_wed_96 : decode cX10_wed 96 = .ok (.iload_n 3, 1) := by decide +kernel
theorem dX10_wed_97 : decode cX10_wed 97 = .ok (.invokevirtual 127, 3) := by decide +kernel
theorem dX10_wed_100 : decode cX10_wed 100 = .ok (.iconst (-1), 1) := by decide +kernel
theorem dX10_wed_101 : decode cX10_wed 101 = .ok (.if_icmp .ne 16, 3) := by decide +kernel
theorem dX10_wed_104 : decode cX10_wed 104 = .ok (.aload_n 0, 1) := by decide +kernel
theorem dX10_wed_105 : decode cX10_wed 105 = .ok (.getfield 23, 3) := by decide +kernel
theorem dX10_wed_108 : decode cX10_wed 108 = .ok (.iload_n 2, 1) := by decide +kernel
theorem dX10_wed_109 : decode cX10_wed 109 = .ok (.iload_n 3, 1) := by decide +kernel
theorem dX10_wed_110 : decode cX10_wed 110 = .ok (.invokevirtual 127, 3) := by decide +kernel
theorem dX10_wed_113 : decode cX10_wed 113 = .ok (.iconst (-1), 1) := by decide +kernel
theorem dX10_wed_114 : decode cX10_wed 114 = .ok (.if_icmp .eq 6, 3) := by decide +kernel
theorem dX10_wed_117 : decode cX10_wed 117 = .ok (.bipush (-3), 2) := by decide +kernel
theorem dX10_wed_119 : decode cX10_wed 119 = .ok (.ireturn, 1) := by decide +kernel
theorem dX10_wed_120 : decode cX10_wed 120 = .ok (.aload_n 0, 1) := by decide +kernel
theorem dX10_wed_121 : decode cX10_wed 121 = .ok (.getfield 14, 3) := by decide +kernel
theorem dX10_wed_124 : decode cX10_wed 124 = .ok (.iconst 1, 1) := by decide +kernel
theorem dX10_wed_125 : decode cX10_wed 125 = .ok (.iload_n 1, 1) := by decide +kernel
theorem dX10_wed_126 : decode cX10_wed 126 = .ok (.iload_n 2, 1) := by decide +kernel
theorem dX10_wed_127 : decode cX10_wed 127 = .ok (.iload_n 3, 1) := by decide +kernel
theorem dX10_wed_128 : decode cX10_wed 128 = .ok (.iconst (-1), 1) := by decide +kernel
theorem dX10_wed_129 : decode cX10_wed 129 = .ok (.invokevirtual 131, 3) := by decide +kernel
theorem dX10_wed_132 : decode cX10_wed 132 = .ok (.ireturn, 1) := by decide +kernel
set_option maxRecDepth 100000 in
theorem c_W_wed (τ : XS) (p0 : Int32) (p1 : Int32) (p2 : Int32) : Ct z (wX z σ) rI eqA yX10_wed cX10_wed 4 (some .int) 6 0 0 [.ref 36, .int p0, .int p1, .int p2] τ (W_wed τ p0 p1 p2) := by
  refine Ct.of (by decide) (Nat.le_of_ble_eq_true rfl) (fun ad x hC hR _ => ?_)
  show AT z x 4 (wX z σ) rI (eqA ad) 0 0 0 0 ad 0 [(0, .ref 36), (1, .int p0), (2, .int p1), (3, .int p2)] [] τ (W_wed τ p0 p1 p2)
  unfold W_wed
  refine at_aload_n (j := 0) hC rfl rfl dX10_wed_0 ?_
  refine gf_X10_14 hC dX10_wed_1 ?_
  refine at_iload_n (j := 1) hC rfl rfl dX10_wed_4 ?_
  refine at_callVpI hC hR lk_X10_107 (c_Bk_isPerson τ p0) dX10_wed_5 recX1 rfl rfl ⟨by decide, by decide⟩ (Nat.le_of_ble_eq_true rfl) ⟨Nat.le_refl 0, Nat.le_refl 0⟩ (fun r1 _ => ?_)
  refine at_if_eq (tgt := 22) hC dX10_wed_8 rfl (fun _ => ?_) (fun _ => ?_)
  · refine at_iconst hC ic_m1 dX10_wed_22 ?_
    exact at_iret (F := eqA ad) (ra := rI) hC dX10_wed_23 rfl (Nat.le_refl 0) (Nat.le_refl 0) rfl
  · refine at_aload_n (j := 0) hC rfl rfl dX10_wed_11 ?_
    refine gf_X10_14 hC dX10_wed_12 ?_
    refine at_iload_n (j := 2) hC rfl rfl dX10_wed_15 ?_
    refine at_callVpI hC hR lk_X10_107 (c_Bk_isPerson τ p1) dX10_wed_16 recX1 rfl rfl ⟨by decide, by decide⟩ (Nat.le_of_ble_eq_true rfl) ⟨Nat.le_refl 0, Nat.le_refl 0⟩ (fun r2 _ => ?_)
    refine at_if_ne (tgt := 24) hC dX10_wed_19 rfl (fun _ => ?_) (fun _ => ?_)
    · refine at_iload_n (j := 3) hC rfl rfl dX10_wed_24 ?_
      refine at_callSpI hC hR lk_X10_93 (c_W_isDay τ p2) dX10_wed_25 rfl rfl ⟨by decide, by decide⟩ (Nat.le_of_ble_eq_true rfl) ⟨Nat.le_refl 0, Nat.le_refl 0⟩ (fun r3 _ => ?_)
      refine at_if_eq (tgt := 53) hC dX10_wed_28 rfl (fun _ => ?_) (fun _ => ?_)
      · refine at_bipush hC bi_m2 dX10_wed_53 ?_
        exact at_iret (F := eqA ad) (ra := rI) hC dX10_wed_55 rfl (Nat.le_refl 0) (Nat.le_refl 0) rfl
      · refine at_aload_n (j := 0) hC rfl rfl dX10_wed_31 ?_
        refine gf_X10_14 hC dX10_wed_32 ?_
        refine at_iload_n (j := 1) hC rfl rfl dX10_wed_35 ?_
        refine at_callVpI hC hR lk_X10_86 (c_Bk_isMan τ p0) dX10_wed_36 recX1 rfl rfl ⟨by decide, by decide⟩ (Nat.le_of_ble_eq_true rfl) ⟨Nat.le_refl 0, Nat.le_refl 0⟩ (fun r4 _ => ?_)
        refine at_if_eq (tgt := 53) hC dX10_wed_39 rfl (fun _ => ?_) (fun _ => ?_)
        · refine at_bipush hC bi_m2 dX10_wed_53 ?_
          exact at_iret (F := eqA ad) (ra := rI) hC dX10_wed_55 rfl (Nat.le_refl 0) (Nat.le_refl 0) rfl
        · refine at_aload_n (j := 0) hC rfl rfl dX10_wed_42 ?_
          refine gf_X10_14 hC dX10_wed_43 ?_
          refine at_iload_n (j := 2) hC rfl rfl dX10_wed_46 ?_
          refine at_callVpI hC hR lk_X10_90 (c_Bk_isWoman τ p1) dX10_wed_47 recX1 rfl rfl ⟨by decide, by decide⟩ (Nat.le_of_ble_eq_true rfl) ⟨Nat.le_refl 0, Nat.le_refl 0⟩ (fun r5 _ => ?_)
          refine at_if_ne (tgt := 56) hC dX10_wed_50 rfl (fun _ => ?_) (fun _ => ?_)
          · refine at_aload_n (j := 0) hC rfl rfl dX10_wed_56 ?_
            refine gf_X10_23 hC dX10_wed_57 ?_
            refine at_iconst hC ic_m1 dX10_wed_60 ?_
            refine at_callVU hC hR lk_X10_119 (c_Lv_readBook τ (-1)) dX10_wed_61 recX4 rfl rfl ⟨by decide, by decide⟩ (Nat.le_of_ble_eq_true rfl) ⟨Nat.le_refl 0, Nat.le_refl 0⟩ (fun r6 r6s _ => ?_)
            refine at_aload_n (j := 0) hC rfl rfl dX10_wed_64 ?_
            refine gf_X10_23 hC dX10_wed_65 ?_
            refine at_iload_n (j := 1) hC rfl rfl dX10_wed_68 ?_
            refine at_iload_n (j := 3) hC rfl rfl dX10_wed_69 ?_
            refine at_callVpI hC hR lk_X10_123 (c_Lv_livesOn r6s p0 p2) dX10_wed_70 recX4 rfl rfl ⟨by decide, by decide⟩ (Nat.le_of_ble_eq_true rfl) ⟨Nat.le_refl 0, Nat.le_refl 0⟩ (fun r7 _ => ?_)
            refine at_if_eq (tgt := 88) hC dX10_wed_73 rfl (fun _ => ?_) (fun _ => ?_)
            · refine at_bipush hC bi_m3 dX10_wed_88 ?_
              exact at_iret (F := eqA ad) (ra := rI) hC dX10_wed_90 rfl (Nat.le_refl 0) (Nat.le_refl 0) rfl
            · refine at_aload_n (j := 0) hC rfl rfl dX10_wed_76 ?_
              refine gf_X10_23 hC dX10_wed_77 ?_
              refine at_iload_n (j := 2) hC rfl rfl dX10_wed_80 ?_
              refine at_iload_n (j := 3) hC rfl rfl dX10_wed_81 ?_
              refine at_callVpI hC hR lk_X10_123 (c_Lv_livesOn r6s p1 p2) dX10_wed_82 recX4 rfl rfl ⟨by decide, by decide⟩ (Nat.le_of_ble_eq_true rfl) ⟨Nat.le_refl 0, Nat.le_refl 0⟩ (fun r8 _ => ?_)
              refine at_if_ne (tgt := 91) hC dX10_wed_85 rfl (fun _ => ?_) (fun _ => ?_)
              · refine at_aload_n (j := 0) hC rfl rfl dX10_wed_91 ?_
                refine gf_X10_23 hC dX10_wed_92 ?_
                refine at_iload_n (j := 1) hC rfl rfl dX10_wed_95 ?_
                refine at_iload_n (j := 3) hC rfl rfl dX10_wed_96 ?_
                refine at_callVpI hC hR lk_X10_127 (c_Lv_wedTo r6s p0 p2) dX10_wed_97 recX4 rfl rfl ⟨by decide, by decide⟩ (Nat.le_of_ble_eq_true rfl) ⟨Nat.le_refl 0, Nat.le_refl 0⟩ (fun r9 _ => ?_)
                refine at_iconst hC ic_m1 dX10_wed_100 ?_
                refine at_icmp_ne (tgt := 117) hC dX10_wed_101 rfl (fun _ => ?_) (fun _ => ?_)
                · refine at_bipush hC bi_m3 dX10_wed_117 ?_
                  exact at_iret (F := eqA ad) (ra := rI) hC dX10_wed_119 rfl (Nat.le_refl 0) (Nat.le_refl 0) rfl
                · refine at_aload_n (j := 0) hC rfl rfl dX10_wed_104 ?_
                  refine gf_X10_23 hC dX10_wed_105 ?_
                  refine at_iload_n (j := 2) hC rfl rfl dX10_wed_108 ?_
                  refine at_iload_n (j := 3) hC rfl rfl dX10_wed_109 ?_
                  refine at_callVpI hC hR lk_X10_127 (c_Lv_wedTo r6s p1 p2) dX10_wed_110 recX4 rfl rfl ⟨by decide, by decide⟩ (Nat.le_of_ble_eq_true rfl) ⟨Nat.le_refl 0, Nat.le_refl 0⟩ (fun r10 _ => ?_)
                  refine at_iconst hC ic_m1 dX10_wed_113 ?_
                  refine at_icmp_eq (tgt := 120) hC dX10_wed_114 rfl (fun _ => ?_) (fun _ => ?_)
                  · refine at_aload_n (j := 0) hC rfl rfl dX10_wed_120 ?_
                    refine gf_X10_14 hC dX10_wed_121 ?_
                    refine at_iconst hC ic_1 dX10_wed_124 ?_
                    refine at_iload_n (j := 1) hC rfl rfl dX10_wed_125 ?_
                    refine at_iload_n (j := 2) hC rfl rfl dX10_wed_126 ?_
                    refine at_iload_n (j := 3) hC rfl rfl dX10_wed_127 ?_
                    refine at_iconst hC ic_m1 dX10_wed_128 ?_
                    refine at_callVI hC hR lk_X10_131 (c_Bk_addEntry r6s 1 p0 p1 p2 (-1)) dX10_wed_129 recX1 rfl rfl ⟨by decide, by decide⟩ (Nat.le_of_ble_eq_true rfl) ⟨Nat.le_refl 0, Nat.le_refl 0⟩ (fun r11 r11s _ => ?_)
                    exact at_iret (F := eqA ad) (ra := rI) hC dX10_wed_132 rfl (Nat.le_refl 0) (Nat.le_refl 0) rfl
                  · refine at_bipush hC bi_m3 dX10_wed_117 ?_
                    exact at_iret (F := eqA ad) (ra := rI) hC dX10_wed_119 rfl (Nat.le_refl 0) (Nat.le_refl 0) rfl
              · refine at_bipush hC bi_m3 dX10_wed_88 ?_
                exact at_iret (F := eqA ad) (ra := rI) hC dX10_wed_90 rfl (Nat.le_refl 0) (Nat.le_refl 0) rfl
          · refine at_bipush hC bi_m2 dX10_wed_53 ?_
            exact at_iret (F := eqA ad) (ra := rI) hC dX10_wed_55 rfl (Nat.le_refl 0) (Nat.le_refl 0) rfl
    · refine at_iconst hC ic_m1 dX10_wed_22 ?_
      exact at_iret (F := eqA ad) (ra := rI) hC dX10_wed_23 rfl (Nat.le_refl 0) (Nat.le_refl 0) rfl
end G
