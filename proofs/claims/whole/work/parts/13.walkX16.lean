section G
variable {z : ZZ} {x : XX} {ad : Nat → Nat} {σ : MS}
theorem dX10_check_0 : decode cX10_check 0 = .ok (.aload_n 0, 1) := by decide +kernel
theorem dX10_check_1 : decode cX10_check 1 = .ok (.getfield 14, 3) := by decide +kernel
theorem dX10_check_4 : decode cX10_check 4 = .ok (.iload_n 2, 1) := by decide +kernel
theorem dX10_check_5 : decode cX10_check 5 = .ok (.invokevirtual 171, 3) := by decide +kernel
theorem dX10_check_8 : decode cX10_check 8 = .ok (.ifCond .ne 5, 3) := by decide +kernel
theorem dX10_check_11 : decode cX10_check 11 = .ok (.iconst (-1), 1) := by decide +kernel
theorem dX10_check_12 : decode cX10_check 12 = .ok (.ireturn, 1) := by decide +kernel
theorem dX10_check_13 : decode cX10_check 13 = .ok (.iload_n 1, 1) := by decide +kernel
theorem dX10_check_14 : decode cX10_check 14 = .ok (.invokestatic 271, 3) := by decide +kernel
theorem dX10_check_17 : decode cX10_check 17 = .ok (.ifCond .ne 6, 3) := by decide +kernel
theorem dX10_check_20 : decode cX10_check 20 = .ok (.bipush (-2), 2) := by decide +kernel
theorem dX10_check_22 : decode cX10_check 22 = .ok (.ireturn, 1) := by decide +kernel
theorem dX10_check_23 : decode cX10_check 23 = .ok (.aload_n 0, 1) := by decide +kernel
theorem dX10_check_24 : decode cX10_check 24 = .ok (.getfield 67, 3) := by decide +kernel
theorem dX10_check_27 : decode cX10_check 27 = .ok (.iload_n 2, 1) := by decide +kernel
theorem dX10_check_28 : decode cX10_check 28 = .ok (.invokevirtual 174, 3) := by decide +kernel
theorem dX10_check_31 : decode cX10_check 31 = .ok (.iconst 0, 1) := by decide +kernel
theorem dX10_check_32 : decode cX10_check 32 = .ok (.istore_n 3, 1) := by decide +kernel
theorem dX10_check_33 : decode cX10_check 33 = .ok (.iload_n 3, 1) := by decide +kernel
theorem dX10_check_34 : decode cX10_check 34 = .ok (.iconst 3, 1) := by decide +kernel
theorem dX10_check_35 : decode cX10_check 35 = .ok (.aload_n 0, 1) := by decide +kernel
theorem dX10_check_36 : decode cX10_check 36 = .ok (.getfield 14, 3) := by decide +kernel
theorem dX10_check_39 : decode cX10_check 39 = .ok (.getfield 100, 3) := by decide +kernel
theorem dX10_check_42 : decode cX10_check 42 = .ok (.imul, 1) := by decide +kernel
theorem dX10_check_43 : decode cX10_check 43 = .ok (.if_icmp .ge 38, 3) := by decide +kernel
theorem dX10_check_46 : decode cX10_check 46 = .ok (.aload_n 0, 1) := by decide +kernel
theorem dX10_check_47 : decode cX10_check 47 = .ok (.getfield 74, 3) := by decide +kernel
theorem dX10_check_50 : decode cX10_check 50 = .ok (.getfield 397, 3) := by decide +kernel
theorem dX10_check_53 : decode cX10_check 53 = .ok (.iload_n 3, 1) := by decide +kernel
theorem dX10_check_54 : decode cX10_check 54 = .ok (.laload, 1) := by decide +kernel
theorem dX10_check_55 : decode cX10_check 55 = .ok (.aload_n 0, 1) := by decide +kernel
theorem dX10_check_56 : decode cX10_check 56 = .ok (.getfield 67, 3) := by decide +kernel
theorem dX10_check_59 : decode cX10_check 59 = .ok (.iload_n 3, 1) := by decide +kernel
theorem dX10_check_60 : decode cX10_check 60 = .ok (.iconst 3, 1) := by decide +kernel
theorem dX10_check_61 : decode cX10_check 61 = .ok (.idiv, 1) := by decide +kernel
theorem dX10_check_62 : decode cX10_check 62 = .ok (.iload_n 3, 1) := by decide +kernel
theorem dX10_check_63 : decode cX10_check 63 = .ok (.iconst 3, 1) := by decide +kernel
theorem dX10_check_64 : decode cX10_check 64 = .ok (.irem, 1) := by decide +kernel
theorem dX10_check_65 : decode cX10_check 65 = .ok (.iload_n 1, 1) := by decide +kernel
theorem dX10_check_66 : decode cX10_check 66 = .ok (.invokevirtual 401, 3) := by decide +kernel
theorem dX10_check_69 : decode cX10_check 69 = .ok (.lcmp, 1) := by decide +kernel
theorem dX10_check_70 : decode cX10_check 70 = .ok (.ifCond .eq 5, 3) := by decide +kernel
theorem dX10_check_73 : decode cX10_check 73 = .ok (.iload_n 3, 1) := by decide +kernel
theorem dX10_check_74 : decode cX10_check 74 = .ok (.ireturn, 1) := by decide +kernel
theorem dX10_check_75 : decode cX10_check 75 = .ok (.iinc 3 1, 3) := by decide +kernel
theorem dX10_check_78 : decode cX10_check 78 = .ok (.goto (-45), 3) := by decide +kernel
theorem dX10_check_81 : decode cX10_check 81 = .ok (.aload_n 0, 1) := by decide +kernel
theorem dX10_check_82 : decode cX10_check 82 = .ok (.getfield 74, 3) := by decide +kernel
theorem dX10_check_85 : decode cX10_check 85 = .ok (.getfield 397, 3) := by decide +kernel
theorem dX10_check_88 : decode cX10_check 88 = .ok (.bipush 72, 2) := by decide +kernel
theorem dX10_check_90 : decode cX10_check 90 = .ok (.laload, 1) := by decide +kernel
theorem dX10_check_91 : decode cX10_check 91 = .ok (.aload_n 0, 1) := by decide +kernel
theorem dX10_check_92 : decode cX10_check 92 = .ok (.getfield 67, 3) := by decide +kernel
theorem dX10_check_95 : decode cX10_check 95 = .ok (.iload_n 1, 1) := by decide +kernel
theorem dX10_check_96 : decode cX10_check 96 = .ok (.invokevirtual 306, 3) := by decide +kernel
theorem dX10_check_99 : decode cX10_check 99 = .ok (.lcmp, 1) := by decide +kernel
theorem dX10_check_100 : decode cX10_check 100 = .ok (.ifCond .ne 8, 3) := by decide +kernel
theorem dX10_check_103 : decode cX10_check 103 = .ok (.bipush (-5), 2) := by decide +kernel
theorem dX10_check_105 : decode cX10_check 105 = .ok (.goto 5, 3) := by decide +kernel
theorem dX10_check_108 : decode cX10_check 108 = .ok (.bipush 100, 2) := by decide +kernel
theorem dX10_check_110 : decode cX10_check 110 = .ok (.ireturn, 1) := by decide +kernel
set_option maxRecDepth 100000 in
theorem t_W_check_L33 (hC : CX z ad x cX10_check RX10 4 (some .int)) (hR : x.2.2.1 = rmk 11 0 0) (n : Nat) (τ : XS) (a1 : Int32) (a3 : Int32) : AT z x 4 (wX z σ) rI (eqA ad) 0 0 0 0 ad 33 [(0, .ref 36), (1, .int a1), (3, .int a3)] [] τ (W_check_L33 n τ a1 a3) := by
  revert τ a1 a3
  show ∀ (τ : XS) (a1 : Int32) (a3 : Int32), AT z x 4 (wX z σ) rI (eqA ad) 0 0 0 0 ad 33 [(0, .ref 36), (1, .int a1), (3, .int a3)] [] τ (W_check_L33_r n τ a1 a3)
  induction n with
  | zero => intro τ a1 a3; exact at_none
  | succ n hk_33 =>
    intro τ a1 a3
    unfold W_check_L33_r
    refine at_iload_n (j := 2) hC rfl rfl dX10_check_33 ?_
    refine at_iconst hC ic_3 dX10_check_34 ?_
    refine at_aload_n (j := 0) hC rfl rfl dX10_check_35 ?_
    refine gf_X10_14 hC dX10_check_36 ?_
    refine gf_X10_100 hC dX10_check_39 ?_
    refine at_imul hC dX10_check_42 ?_
    refine at_icmp_ge (tgt := 81) hC dX10_check_43 rfl (fun _ => ?_) (fun _ => ?_)
    · refine at_aload_n (j := 0) hC rfl rfl dX10_check_81 ?_
      refine gf_X10_74 hC dX10_check_82 ?_
      refine gf_X10_397 hC dX10_check_85 ?_
      refine at_bipush hC bi_72 dX10_check_88 ?_
      refine at_lald hC 79 dX10_check_90 cl_79 (fun v4 => ?_)
      refine at_aload_n (j := 0) hC rfl rfl dX10_check_91 ?_
      refine gf_X10_67 hC dX10_check_92 ?_
      refine at_iload_n (j := 1) hC rfl rfl dX10_check_95 ?_
      refine at_callVJ hC hR lk_X10_306 (c_Cn_chestBehind τ a1) dX10_check_96 recX2 rfl rfl ⟨by decide, by decide⟩ (Nat.le_of_ble_eq_true rfl) ⟨Nat.le_refl 0, Nat.le_refl 0⟩ (fun r5 r5s _ => ?_)
      refine at_lcmp hC dX10_check_99 ?_
      refine at_if_ne (tgt := 108) hC dX10_check_100 rfl (fun _ => ?_) (fun _ => ?_)
      · refine at_bipush hC bi_100 dX10_check_108 ?_
        exact at_iret (F := eqA ad) (ra := rI) hC dX10_check_110 rfl (Nat.le_refl 0) (Nat.le_refl 0) rfl
      · refine at_bipush hC bi_m5 dX10_check_103 ?_
        refine at_goto (tgt := 110) hC dX10_check_105 rfl ?_
        exact at_iret (F := eqA ad) (ra := rI) hC dX10_check_110 rfl (Nat.le_refl 0) (Nat.le_refl 0) rfl
    · refine at_aload_n (j := 0) hC rfl rfl dX10_check_46 ?_
      refine gf_X10_74 hC dX10_check_47 ?_
      refine gf_X10_397 hC dX10_check_50 ?_
      refine at_iload_n (j := 2) hC rfl rfl dX10_check_53 ?_
      refine at_lald hC 79 dX10_check_54 cl_79 (fun v6 => ?_)
      refine at_aload_n (j := 0) hC rfl rfl dX10_check_55 ?_
      refine gf_X10_67 hC dX10_check_56 ?_
      refine at_iload_n (j := 2) hC rfl rfl dX10_check_59 ?_
      refine at_iconst hC ic_3 dX10_check_60 ?_
      refine at_idiv hC (by decide) dX10_check_61 ?_
      refine at_iload_n (j := 2) hC rfl rfl dX10_check_62 ?_
      refine at_iconst hC ic_3 dX10_check_63 ?_
      refine at_irem hC (by decide) dX10_check_64 ?_
      refine at_iload_n (j := 1) hC rfl rfl dX10_check_65 ?_
      refine at_callVJ hC hR lk_X10_401 (c_Cn_numberOf τ (a3 / 3) (a3 - a3 / 3 * 3) a1) dX10_check_66 recX2 rfl rfl ⟨by decide, by decide⟩ (Nat.le_of_ble_eq_true rfl) ⟨Nat.le_refl 0, Nat.le_refl 0⟩ (fun r7 r7s _ => ?_)
      refine at_lcmp hC dX10_check_69 ?_
      refine at_if_eq (tgt := 75) hC dX10_check_70 rfl (fun _ => ?_) (fun _ => ?_)
      · refine at_iinc (j := 2) (v := a3 + 1) (lv' := [(3, .int (a3 + 1)), (0, .ref 36), (1, .int a1)]) hC dX10_check_75 rfl rfl (by decide) rfl ?_
        refine at_goto (tgt := 33) hC dX10_check_78 rfl ?_
        refine at_drop (lv' := [(0, .ref 36), (1, .int a1), (3, .int (a3 + 1))]) [1, 2, 0] rfl ?_
        exact hk_33 r7s a1 (a3 + 1)
      · refine at_iload_n (j := 2) hC rfl rfl dX10_check_73 ?_
        exact at_iret (F := eqA ad) (ra := rI) hC dX10_check_74 rfl (Nat.le_refl 0) (Nat.le_refl 0) rfl
set_option maxRecDepth 100000 in
theorem c_W_check (τ : XS) (p0 : Int32) (p1 : Int32) : Ct z (wX z σ) rI eqA yX10_check cX10_check 4 (some .int) 11 0 0 [.ref 36, .int p0, .int p1] τ (W_check τ p0 p1) := by
  refine Ct.of (by decide) (Nat.le_of_ble_eq_true rfl) (fun ad x hC hR _ => ?_)
  show AT z x 4 (wX z σ) rI (eqA ad) 0 0 0 0 ad 0 [(0, .ref 36), (1, .int p0), (2, .int p1)] [] τ (W_check τ p0 p1)
  unfold W_check
  refine at_aload_n (j := 0) hC rfl rfl dX10_check_0 ?_
  refine gf_X10_14 hC dX10_check_1 ?_
  refine at_iload_n (j := 2) hC rfl rfl dX10_check_4 ?_
  refine at_callVpI hC hR lk_X10_171 (c_Bk_isReach τ p1) dX10_check_5 recX1 rfl rfl ⟨by decide, by decide⟩ (Nat.le_of_ble_eq_true rfl) ⟨Nat.le_refl 0, Nat.le_refl 0⟩ (fun r1 _ => ?_)
  refine at_if_ne (tgt := 13) hC dX10_check_8 rfl (fun _ => ?_) (fun _ => ?_)
  · refine at_iload_n (j := 1) hC rfl rfl dX10_check_13 ?_
    refine at_callSpI hC hR lk_X10_271 (c_W_isYear τ p0) dX10_check_14 rfl rfl ⟨by decide, by decide⟩ (Nat.le_of_ble_eq_true rfl) ⟨Nat.le_refl 0, Nat.le_refl 0⟩ (fun r2 _ => ?_)
    refine at_if_ne (tgt := 23) hC dX10_check_17 rfl (fun _ => ?_) (fun _ => ?_)
    · refine at_aload_n (j := 0) hC rfl rfl dX10_check_23 ?_
      refine gf_X10_67 hC dX10_check_24 ?_
      refine at_iload_n (j := 2) hC rfl rfl dX10_check_27 ?_
      refine at_callVU hC hR lk_X10_174 (c_Cn_look τ p1) dX10_check_28 recX2 rfl rfl ⟨by decide, by decide⟩ (Nat.le_of_ble_eq_true rfl) ⟨Nat.le_refl 0, Nat.le_refl 0⟩ (fun r3 r3s _ => ?_)
      refine at_iconst hC ic_0 dX10_check_31 ?_
      refine at_istore_n (lv' := [(3, .int 0), (0, .ref 36), (1, .int p0), (2, .int p1)]) hC rfl dX10_check_32 (by decide) rfl ?_
      refine at_drop (lv' := [(0, .ref 36), (1, .int p0), (3, .int 0)]) [1, 2, 0] rfl ?_
      exact t_W_check_L33 hC hR 100000 r3s p0 0
    · refine at_bipush hC bi_m2 dX10_check_20 ?_
      exact at_iret (F := eqA ad) (ra := rI) hC dX10_check_22 rfl (Nat.le_refl 0) (Nat.le_refl 0) rfl
  · refine at_iconst hC ic_m1 dX10_check_11 ?_
    exact at_iret (F := eqA ad) (ra := rI) hC dX10_check_12 rfl (Nat.le_refl 0) (Nat.le_refl 0) rfl
theorem dX10_judge_0 : decode cX10_judge 0 = .ok (.aload_n 0, 1) := by decide +kernel
theorem dX10_judge_1 : decode cX10_judge 1 = .ok (.getfield 14, 3) := by decide +kernel
theorem dX10_judge_4 : decode cX10_judge 4 = .ok (.iload_n 2, 1) := by decide +kernel
theorem dX10_judge_5 : decode cX10_judge 5 = .ok (.invokevirtual 171, 3) := by decide +kernel
theorem dX10_judge_8 : decode cX10_judge 8 = .ok (.ifCond .ne 5, 3) := by decide +kernel
theorem dX10_judge_11 : decode cX10_judge 11 = .ok (.iconst (-1), 1) := by decide +kernel
theorem dX10_judge_12 : decode cX10_judge 12 = .ok (.ireturn, 1) := by decide +kernel
theorem dX10_judge_13 : decode cX10_judge 13 = .ok (.iload_n 1, 1) := by decide +kernel
theorem dX10_judge_14 : decode cX10_judge 14 = .ok (.invokestatic 271, 3) := by decide +kernel
theorem dX10_judge_17 : decode cX10_judge 17 = .ok (.ifCond .ne 6, 3) := by decide +kernel
theorem dX10_judge_20 : decode cX10_judge 20 = .ok (.bipush (-2), 2) := by decide +kernel
theorem dX10_judge_22 : decode cX10_judge 22 = .ok (.ireturn, 1) := by decide +kernel
theorem dX10_judge_23 : decode cX10_judge 23 = .ok (.aload_n 0, 1) := by decide +kernel
theorem dX10_judge_24 : decode cX10_judge 24 = .ok (.getfield 67, 3) := by decide +kernel
theorem dX10_judge_27 : decode cX10_judge 27 = .ok (.iload_n 2, 1) := by decide +kernel
theorem dX10_judge_28 : decode cX10_judge 28 = .ok (.invokevirtual 174, 3) := by decide +kernel
theorem dX10_judge_31 : decode cX10_judge 31 = .ok (.iconst 0, 1) := by decide +kernel
theorem dX10_judge_32 : decode cX10_judge 32 = .ok (.istore_n 3, 1) := by decide +kernel
theorem dX10_judge_33 : decode cX10_judge 33 = .ok (.iconst 0, 1) := by decide +kernel
theorem dX10_judge_34 : decode cX10_judge 34 = .ok (.istore 4, 2) := by decide +kernel
theorem dX10_judge_36 : decode cX10_judge 36 = .ok (.iload 4, 2) := by decide +kernel
theorem dX10_judge_38 : decode cX10_judge 38 = .ok (.iconst 3, 1) := by decide +kernel
theorem dX10_judge_39 : decode cX10_judge 39 = .ok (.aload_n 0, 1) := by decide +kernel
theorem dX10_judge_40 : decode cX10_judge 40 = .ok (.getfield 14, 3) := by decide +kernel
theorem dX10_judge_43 : decode cX10_judge 43 = .ok (.getfield 100, 3) := by decide +kernel
theorem dX10_judge_46 : decode cX10_judge 46 = .ok (.imul, 1) := by decide +kernel
theorem dX10_judge_47 : decode cX10_judge 47 = .ok (.if_icmp .ge 47, 3) := by decide +kernel
theorem dX10_judge_50 : decode cX10_judge 50 = .ok (.aload_n 0, 1) := by decide +kernel
theorem dX10_judge_51 : decode cX10_judge 51 = .ok (.getfield 67, 3) := by decide +kernel
theorem dX10_judge_54 : decode cX10_judge 54 = .ok (.iload 4, 2) := by decide +kernel
theorem dX10_judge_56 : decode cX10_judge 56 = .ok (.iconst 3, 1) := by decide +kernel
theorem dX10_judge_57 : decode cX10_judge 57 = .ok (.idiv, 1) := by decide +kernel
theorem dX10_judge_58 : decode cX10_judge 58 = .ok (.iload 4, 2) := by decide +kernel
theorem dX10_judge_60 : decode cX10_judge 60 = .ok (.iconst 3, 1) := by decide +kernel
theorem dX10_judge_61 : decode cX10_judge 61 = .ok (.irem, 1) := by decide +kernel
theorem dX10_judge_62 : decode cX10_judge 62 = .ok (.iload_n 1, 1) := by decide +kernel
theorem dX10_judge_63 : decode cX10_judge 63 = .ok (.invokevirtual 401, 3) := by decide +kernel
theorem dX10_judge_66 : decode cX10_judge 66 = .ok (.lstore 5, 2) := by decide +kernel
theorem dX10_judge_68 : decode cX10_judge 68 = .ok (.aload_n 0, 1) := by decide +kernel
theorem dX10_judge_69 : decode cX10_judge 69 = .ok (.getfield 74, 3) := by decide +kernel
theorem dX10_judge_72 : decode cX10_judge 72 = .ok (.iload 4, 2) := by decide +kernel
theorem dX10_judge_74 : decode cX10_judge 74 = .ok (.lload 5, 2) := by decide +kernel
theorem dX10_judge_76 : decode cX10_judge 76 = .ok (.invokevirtual 393, 3) := by decide +kernel
theorem dX10_judge_79 : decode cX10_judge 79 = .ok (.lload 5, 2) := by decide +kernel
theorem dX10_judge_81 : decode cX10_judge 81 = .ok (.lcmp, 1) := by decide +kernel
theorem dX10_judge_82 : decode cX10_judge 82 = .ok (.ifCond .eq 6, 3) := by decide +kernel
theorem dX10_judge_85 : decode cX10_judge 85 = .ok (.iinc 3 1, 3) := by decide +kernel
theorem dX10_judge_88 : decode cX10_judge 88 = .ok (.iinc 4 1, 3) := by decide +kernel
theorem dX10_judge_91 : decode cX10_judge 91 = .ok (.goto (-55), 3) := by decide +kernel
theorem dX10_judge_94 : decode cX10_judge 94 = .ok (.aload_n 0, 1) := by decide +kernel
theorem dX10_judge_95 : decode cX10_judge 95 = .ok (.getfield 67, 3) := by decide +kernel
theorem dX10_judge_98 : decode cX10_judge 98 = .ok (.iload_n 1, 1) := by decide +kernel
theorem dX10_judge_99 : decode cX10_judge 99 = .ok (.invokevirtual 306, 3) := by decide +kernel
theorem dX10_judge_102 : decode cX10_judge 102 = .ok (.lstore 4, 2) := by decide +kernel
theorem dX10_judge_104 : decode cX10_judge 104 = .ok (.aload_n 0, 1) := by decide +kernel
theorem dX10_judge_105 : decode cX10_judge 105 = .ok (.getfield 74, 3) := by decide +kernel
theorem dX10_judge_108 : decode cX10_judge 108 = .ok (.bipush 72, 2) := by decide +kernel
theorem dX10_judge_110 : decode cX10_judge 110 = .ok (.lload 4, 2) := by decide +kernel
theorem dX10_judge_112 : decode cX10_judge 112 = .ok (.invokevirtual 393, 3) := by decide +kernel
theorem dX10_judge_115 : decode cX10_judge 115 = .ok (.lload 4, 2) := by decide +kernel
theorem dX10_judge_117 : decode cX10_judge 117 = .ok (.lcmp, 1) := by decide +kernel
theorem dX10_judge_118 : decode cX10_judge 118 = .ok (.ifCond .eq 9, 3) := by decide +kernel
theorem dX10_judge_121 : decode cX10_judge 121 = .ok (.iload_n 3, 1) := by decide +kernel
theorem dX10_judge_122 : decode cX10_judge 122 = .ok (.iconst 1, 1) := by decide +kernel
theorem dX10_judge_123 : decode cX10_judge 123 = .ok (.iadd, 1) := by decide +kernel
theorem dX10_judge_124 : decode cX10_judge 124 = .ok (.goto 4, 3) := by decide +kernel
theorem dX10_judge_127 : decode cX10_judge 127 = .ok (.iload_n 3, 1) := by decide +kernel
theorem dX10_judge_128 : decode cX10_judge 128 = .ok (.ireturn, 1) := by decide +kernel
set_option maxRecDepth 100000 in
theorem t_W_judge_J88 (hC : CX z ad x cX10_judge RX10 7 (some .int)) (hR : x.2.2.1 = rmk 11 0 0) (k_36 : XS → Int32 → Int32 → Int32 → Option (Int32 × XS)) (hk_36 : ∀ (τ : XS) (a1 : Int32) (a3 : Int32) (a4 : Int32), AT z x 7 (wX z σ) rI (eqA ad) 0 0 0 0 ad 36 [(0, .ref 36), (1, .int a1), (3, .int a3), (4, .int a4)] [] τ (k_36 τ a1 a3 a4)) (τ : XS) (a1 : Int32) (a3 : Int32) (a4 : Int32) : AT z x 7 (wX z σ) rI (eqA ad) 0 0 0 0 ad 88 [(0, .ref 36), (1, .int a1), (3, .int a3), (4, .int a4)] [] τ (W_judge_J88 k_36 τ a1 a3 a4) := by
  unfold W_judge_J88
  refine at_iinc (j := 3) (v := a4 + 1) (lv' := [(4, .int (a4 + 1)), (0, .ref 36), (1, .int a1), (3, .int a3)]) hC dX10_judge_88 rfl rfl (by decide) rfl ?_
  refine at_goto (tgt := 36) hC dX10_judge_91 rfl ?_
  refine at_drop (lv' := [(0, .ref 36), (1, .int a1), (3, .int a3), (4, .int (a4 + 1))]) [1, 2, 3, 0] rfl ?_
  exact hk_36 τ a1 a3 (a4 + 1)
set_option maxRecDepth 100000 in
theorem t_W_judge_L36 (hC : CX z ad x cX10_judge RX10 7 (some .int)) (hR : x.2.2.1 = rmk 11 0 0) (n : Nat) (τ : XS) (a1 : Int32) (a3 : Int32) (a4 : Int32) : AT z x 7 (wX z σ) rI (eqA ad) 0 0 0 0 ad 36 [(0, .ref 36), (1, .int a1), (3, .int a3), (4, .int a4)] [] τ (W_judge_L36 n τ a1 a3 a4) := by
  revert τ a1 a3 a4
  show ∀ (τ : XS) (a1 : Int32) (a3 : Int32) (a4 : Int32), AT z x 7 (wX z σ) rI (eqA ad) 0 0 0 0 ad 36 [(0, .ref 36), (1, .int a1), (3, .int a3), (4, .int a4)] [] τ (W_judge_L36_r n τ a1 a3 a4)
  induction n with
  | zero => intro τ a1 a3 a4; exact at_none
  | succ n hk_36 =>
    intro τ a1 a3 a4
    unfold W_judge_L36_r
    refine at_iload (j := 3) hC rfl dX10_judge_36 ?_
    refine at_iconst hC ic_3 dX10_judge_38 ?_
    refine at_aload_n (j := 0) hC rfl rfl dX10_judge_39 ?_
    refine gf_X10_14 hC dX10_judge_40 ?_
    refine gf_X10_100 hC dX10_judge_43 ?_
    refine at_imul hC dX10_judge_46 ?_
    refine at_icmp_ge (tgt := 94) hC dX10_judge_47 rfl (fun _ => ?_) (fun _ => ?_)
    · refine at_aload_n (j := 0) hC rfl rfl dX10_judge_94 ?_
      refine gf_X10_67 hC dX10_judge_95 ?_
      refine at_iload_n (j := 1) hC rfl rfl dX10_judge_98 ?_
      refine at_callVJ hC hR lk_X10_306 (c_Cn_chestBehind τ a1) dX10_judge_99 recX2 rfl rfl ⟨by decide, by decide⟩ (Nat.le_of_ble_eq_true rfl) ⟨Nat.le_refl 0, Nat.le_refl 0⟩ (fun r4 r4s _ => ?_)
      refine at_lstore (lv' := [(4, .long r4), (0, .ref 36), (1, .int a1), (3, .int a3)]) hC dX10_judge_102 (by decide) rfl ?_
      refine at_aload_n (j := 1) hC rfl rfl dX10_judge_104 ?_
      refine gf_X10_74 hC dX10_judge_105 ?_
      refine at_bipush hC bi_72 dX10_judge_108 ?_
      refine at_lload (j := 0) hC rfl dX10_judge_110 ?_
      refine at_callVJ hC hR lk_X10_393 (c_Ty_exchange r4s 72 r4) dX10_judge_112 recX8 rfl rfl ⟨by decide, by decide⟩ (Nat.le_of_ble_eq_true rfl) ⟨Nat.le_refl 0, Nat.le_refl 0⟩ (fun r5 r5s _ => ?_)
      refine at_lload (j := 0) hC rfl dX10_judge_115 ?_
      refine at_lcmp hC dX10_judge_117 ?_
      refine at_if_eq (tgt := 127) hC dX10_judge_118 rfl (fun _ => ?_) (fun _ => ?_)
      · refine at_iload_n (j := 3) hC rfl rfl dX10_judge_127 ?_
        exact at_iret (F := eqA ad) (ra := rI) hC dX10_judge_128 rfl (Nat.le_refl 0) (Nat.le_refl 0) rfl
      · refine at_iload_n (j := 3) hC rfl rfl dX10_judge_121 ?_
        refine at_iconst hC ic_1 dX10_judge_122 ?_
        refine at_iadd hC dX10_judge_123 ?_
        refine at_goto (tgt := 128) hC dX10_judge_124 rfl ?_
        exact at_iret (F := eqA ad) (ra := rI) hC dX10_judge_128 rfl (Nat.le_refl 0) (Nat.le_refl 0) rfl
    · refine at_aload_n (j := 0) hC rfl rfl dX10_judge_50 ?_
      refine gf_X10_67 hC dX10_judge_51 ?_
      refine at_iload (j := 3) hC rfl dX10_judge_54 ?_
      refine at_iconst hC ic_3 dX10_judge_56 ?_
      refine at_idiv hC (by decide) dX10_judge_57 ?_
      refine at_iload (j := 3) hC rfl dX10_judge_58 ?_
      refine at_iconst hC ic_3 dX10_judge_60 ?_
      refine at_irem hC (by decide) dX10_judge_61 ?_
      refine at_iload_n (j := 1) hC rfl rfl dX10_judge_62 ?_
      refine at_callVJ hC hR lk_X10_401 (c_Cn_numberOf τ (a4 / 3) (a4 - a4 / 3 * 3) a1) dX10_judge_63 recX2 rfl rfl ⟨by decide, by decide⟩ (Nat.le_of_ble_eq_true rfl) ⟨Nat.le_refl 0, Nat.le_refl 0⟩ (fun r6 r6s _ => ?_)
      refine at_lstore (lv' := [(5, .long r6), (0, .ref 36), (1, .int a1), (3, .int a3), (4, .int a4)]) hC dX10_judge_66 (by decide) rfl ?_
      refine at_aload_n (j := 1) hC rfl rfl dX10_judge_68 ?_
      refine gf_X10_74 hC dX10_judge_69 ?_
      refine at_iload (j := 4) hC rfl dX10_judge_72 ?_
      refine at_lload (j := 0) hC rfl dX10_judge_74 ?_
      refine at_callVJ hC hR lk_X10_393 (c_Ty_exchange r6s a4 r6) dX10_judge_76 recX8 rfl rfl ⟨by decide, by decide⟩ (Nat.le_of_ble_eq_true rfl) ⟨Nat.le_refl 0, Nat.le_refl 0⟩ (fun r7 r7s _ => ?_)
      refine at_lload (j := 0) hC rfl dX10_judge_79 ?_
      refine at_lcmp hC dX10_judge_81 ?_
      refine at_if_eq (tgt := 88) hC dX10_judge_82 rfl (fun _ => ?_) (fun _ => ?_)
      · refine at_drop (lv' := [(0, .ref 36), (1, .int a1), (3, .int a3), (4, .int a4)]) [1, 2, 3, 4] rfl ?_
        exact t_W_judge_J88 hC hR (W_judge_L36_r n) hk_36 r7s a1 a3 a4
      · refine at_iinc (j := 3) (v := a3 + 1) (lv' := [(3, .int (a3 + 1)), (5, .long r6), (0, .ref 36), (1, .int a1), (4, .int a4)]) hC dX10_judge_85 rfl rfl (by decide) rfl ?_
        refine at_drop (lv' := [(0, .ref 36), (1, .int a1), (3, .int (a3 + 1)), (4, .int a4)]) [2, 3, 0, 4] rfl ?_
        exact t_W_judge_J88 hC hR (W_judge_L36_r n) hk_36 r7s a1 (a3 + 1) a4
set_option maxRecDepth 100000 in
theorem c_W_judge (τ : XS) (p0 : Int32) (p1 : Int32) : Ct z (wX z σ) rI eqA yX10_judge cX10_judge 7 (some .int) 11 0 0 [.ref 36, .int p0, .int p1] τ (W_judge τ p0 p1) := by
  refine Ct.of (by decide) (Nat.le_of_ble_eq_true rfl) (fun ad x hC hR _ => ?_)
  show AT z x 7 (wX z σ) rI (eqA ad) 0 0 0 0 ad 0 [(0, .ref 36), (1, .int p0), (2, .int p1)] [] τ (W_judge τ p0 p1)
  unfold W_judge
  refine at_aload_n (j := 0) hC rfl rfl dX10_judge_0 ?_
  refine gf_X10_14 hC dX10_judge_1 ?_
  refine at_iload_n (j := 2) hC rfl rfl dX10_judge_4 ?_
  refine at_callVpI hC hR lk_X10_171 (c_Bk_isReach τ p1) dX10_judge_5 recX1 rfl rfl ⟨by decide, by decide⟩ (Nat.le_of_ble_eq_true rfl) ⟨Nat.le_refl 0, Nat.le_refl 0⟩ (fun r1 _ => ?_)
  refine at_if_ne (tgt := 13) hC dX10_judge_8 rfl (fun _ => ?_) (fun _ => ?_)
  · refine at_iload_n (j := 1) hC rfl rfl dX10_judge_13 ?_
    refine at_callSpI hC hR lk_X10_271 (c_W_isYear τ p0) dX10_judge_14 rfl rfl ⟨by decide, by decide⟩ (Nat.le_of_ble_eq_true rfl) ⟨Nat.le_refl 0, Nat.le_refl 0⟩ (fun r2 _ => ?_)
    refine at_if_ne (tgt := 23) hC dX10_judge_17 rfl (fun _ => ?_) (fun _ => ?_)
    · refine at_aload_n (j := 0) hC rfl rfl dX10_judge_23 ?_
      refine gf_X10_67 hC dX10_judge_24 ?_
      refine at_iload_n (j := 2) hC rfl rfl dX10_judge_27 ?_
      refine at_callVU hC hR lk_X10_174 (c_Cn_look τ p1) dX10_judge_28 recX2 rfl rfl ⟨by decide, by decide⟩ (Nat.le_of_ble_eq_true rfl) ⟨Nat.le_refl 0, Nat.le_refl 0⟩ (fun r3 r3s _ => ?_)
      refine at_iconst hC ic_0 dX10_judge_31 ?_
      refine at_istore_n (lv' := [(3, .int 0), (0, .ref 36), (1, .int p0), (2, .int p1)]) hC rfl dX10_judge_32 (by decide) rfl ?_
      refine at_iconst hC ic_0 dX10_judge_33 ?_
      refine at_istore (lv' := [(4, .int 0), (3, .int 0), (0, .ref 36), (1, .int p0), (2, .int p1)]) hC dX10_judge_34 (by decide) rfl ?_
      refine at_drop (lv' := [(0, .ref 36), (1, .int p0), (3, .int 0), (4, .int 0)]) [2, 3, 1, 0] rfl ?_
      exact t_W_judge_L36 hC hR 100000 r3s p0 0 0
    · refine at_bipush hC bi_m2 dX10_judge_20 ?_
      exact at_iret (F := eqA ad) (ra := rI) hC dX10_judge_22 rfl (Nat.le_refl 0) (Nat.le_refl 0) rfl
  · refine at_iconst hC ic_m1 dX10_judge_11 ?_
    exact at_iret (F := eqA ad) (ra := rI) hC dX10_judge_12 rfl (Nat.le_refl 0) (Nat.le_refl 0) rfl
theorem dX10_count_0 : decode cX10_count 0 = .ok (.iload_n 1, 1) := by decide +kernel
theorem dX10_count_1 : decode cX10_count 1 = .ok (.tableswitch 123 0 8 #[51, 59, 67, 75, 83, 91, 99, 107, 115], 51) := by decide +kernel
theorem dX10_count_52 : decode cX10_count 52 = .ok (.aload_n 0, 1) := by decide +kernel
theorem dX10_count_53 : decode cX10_count 53 = .ok (.getfield 14, 3) := by decide +kernel
theorem dX10_count_56 : decode cX10_count 56 = .ok (.getfield 100, 3) := by decide +kernel
theorem dX10_count_59 : decode cX10_count 59 = .ok (.ireturn, 1) := by decide +kernel
theorem dX10_count_60 : decode cX10_count 60 = .ok (.aload_n 0, 1) := by decide +kernel
theorem dX10_count_61 : decode cX10_count 61 = .ok (.getfield 14, 3) := by decide +kernel
theorem dX10_count_64 : decode cX10_count 64 = .ok (.getfield 405, 3) := by decide +kernel
theorem dX10_count_67 : decode cX10_count 67 = .ok (.ireturn, 1) := by decide +kernel
theorem dX10_count_68 : decode cX10_count 68 = .ok (.aload_n 0, 1) := by decide +kernel
theorem dX10_count_69 : decode cX10_count 69 = .ok (.getfield 37, 3) := by decide +kernel
theorem dX10_count_72 : decode cX10_count 72 = .ok (.getfield 205, 3) := by decide +kernel
theorem dX10_count_75 : decode cX10_count 75 = .ok (.ireturn, 1) := by decide +kernel
theorem dX10_count_76 : decode cX10_count 76 = .ok (.aload_n 0, 1) := by decide +kernel
theorem dX10_count_77 : decode cX10_count 77 = .ok (.getfield 14, 3) := by decide +kernel
theorem dX10_count_80 : decode cX10_count 80 = .ok (.getfield 82, 3) := by decide +kernel
theorem dX10_count_83 : decode cX10_count 83 = .ok (.ireturn, 1) := by decide +kernel
theorem dX10_count_84 : decode cX10_count 84 = .ok (.aload_n 0, 1) := by decide +kernel
theorem dX10_count_85 : decode cX10_count 85 = .ok (.getfield 44, 3) := by decide +kernel
theorem dX10_count_88 : decode cX10_count 88 = .ok (.getfield 309, 3) := by decide +kernel
theorem dX10_count_91 : decode cX10_count 91 = .ok (.ireturn, 1) := by decide +kernel
theorem dX10_count_92 : decode cX10_count 92 = .ok (.aload_n 0, 1) := by decide +kernel
theorem dX10_count_93 : decode cX10_count 93 = .ok (.getfield 58, 3) := by decide +kernel
theorem dX10_count_96 : decode cX10_count 96 = .ok (.getfield 348, 3) := by decide +kernel
theorem dX10_count_99 : decode cX10_count 99 = .ok (.ireturn, 1) := by decide +kernel
theorem dX10_count_100 : decode cX10_count 100 = .ok (.aload_n 0, 1) := by decide +kernel
theorem dX10_count_101 : decode cX10_count 101 = .ok (.getfield 58, 3) := by decide +kernel
theorem dX10_count_104 : decode cX10_count 104 = .ok (.getfield 362, 3) := by decide +kernel
theorem dX10_count_107 : decode cX10_count 107 = .ok (.ireturn, 1) := by decide +kernel
theorem dX10_count_108 : decode cX10_count 108 = .ok (.aload_n 0, 1) := by decide +kernel
theorem dX10_count_109 : decode cX10_count 109 = .ok (.getfield 30, 3) := by decide +kernel
theorem dX10_count_112 : decode cX10_count 112 = .ok (.getfield 199, 3) := by decide +kernel
theorem dX10_count_115 : decode cX10_count 115 = .ok (.ireturn, 1) := by decide +kernel
theorem dX10_count_116 : decode cX10_count 116 = .ok (.aload_n 0, 1) := by decide +kernel
theorem dX10_count_117 : decode cX10_count 117 = .ok (.getfield 51, 3) := by decide +kernel
theorem dX10_count_120 : decode cX10_count 120 = .ok (.getfield 338, 3) := by decide +kernel
theorem dX10_count_123 : decode cX10_count 123 = .ok (.ireturn, 1) := by decide +kernel
theorem dX10_count_124 : decode cX10_count 124 = .ok (.iconst (-1), 1) := by decide +kernel
theorem dX10_count_125 : decode cX10_count 125 = .ok (.ireturn, 1) := by decide +kernel
set_option maxRecDepth 100000 in
theorem c_W_count (τ : XS) (p0 : Int32) : Ct z (wX z σ) rI eqA yX10_count cX10_count 2 (some .int) 1 0 0 [.ref 36, .int p0] τ ((W_count τ p0).map fun r => (r, τ)) := by
  refine Ct.of (by decide) (Nat.le_of_ble_eq_true rfl) (fun ad x hC hR _ => ?_)
  show AT z x 2 (wX z σ) rI (eqA ad) 0 0 0 0 ad 0 [(0, .ref 36), (1, .int p0)] [] τ ((W_count τ p0).map fun r => (r, τ))
  unfold W_count
  refine at_iload_n (j := 1) hC rfl rfl dX10_count_0 ?_
  refine ap_sw (off := 51) (tgt := 52) (v := 0) hC 0 dX10_count_1 rfl rfl (by decide) (by decide) swp0 ?_ (fun hp0 => ?_)
  · refine at_aload_n (j := 0) hC rfl rfl dX10_count_52 ?_
    refine gf_X10_14 hC dX10_count_53 ?_
    refine gf_X10_100 hC dX10_count_56 ?_
    exact at_iret (F := eqA ad) (ra := rI) hC dX10_count_59 rfl (Nat.le_refl 0) (Nat.le_refl 0) rfl
  refine ap_sw (off := 59) (tgt := 60) (v := 1) hC 1 dX10_count_1 rfl rfl (by decide) (by decide) hp0 ?_ (fun hp1 => ?_)
  · refine at_aload_n (j := 0) hC rfl rfl dX10_count_60 ?_
    refine gf_X10_14 hC dX10_count_61 ?_
    refine gf_X10_405 hC dX10_count_64 ?_
    exact at_iret (F := eqA ad) (ra := rI) hC dX10_count_67 rfl (Nat.le_refl 0) (Nat.le_refl 0) rfl
  refine ap_sw (off := 67) (tgt := 68) (v := 2) hC 2 dX10_count_1 rfl rfl (by decide) (by decide) hp1 ?_ (fun hp2 => ?_)
  · refine at_aload_n (j := 0) hC rfl rfl dX10_count_68 ?_
    refine gf_X10_37 hC dX10_count_69 ?_
    refine gf_X10_205 hC dX10_count_72 ?_
    exact at_iret (F := eqA ad) (ra := rI) hC dX10_count_75 rfl (Nat.le_refl 0) (Nat.le_refl 0) rfl
  refine ap_sw (off := 75) (tgt := 76) (v := 3) hC 3 dX10_count_1 rfl rfl (by decide) (by decide) hp2 ?_ (fun hp3 => ?_)
  · refine at_aload_n (j := 0) hC rfl rfl dX10_count_76 ?_
    refine gf_X10_14 hC dX10_count_77 ?_
    refine gf_X10_82 hC dX10_count_80 ?_
    exact at_iret (F := eqA ad) (ra := rI) hC dX10_count_83 rfl (Nat.le_refl 0) (Nat.le_refl 0) rfl
  refine ap_sw (off := 83) (tgt := 84) (v := 4) hC 4 dX10_count_1 rfl rfl (by decide) (by decide) hp3 ?_ (fun hp4 => ?_)
  · refine at_aload_n (j := 0) hC rfl rfl dX10_count_84 ?_
    refine gf_X10_44 hC dX10_count_85 ?_
    refine gf_X10_309 hC dX10_count_88 ?_
    exact at_iret (F := eqA ad) (ra := rI) hC dX10_count_91 rfl (Nat.le_refl 0) (Nat.le_refl 0) rfl
  refine ap_sw (off := 91) (tgt := 92) (v := 5) hC 5 dX10_count_1 rfl rfl (by decide) (by decide) hp4 ?_ (fun hp5 => ?_)
  · refine at_aload_n (j := 0) hC rfl rfl dX10_count_92 ?_
    refine gf_X10_58 hC dX10_count_93 ?_
    refine gf_X10_348 hC dX10_count_96 ?_
    exact at_iret (F := eqA ad) (ra := rI) hC dX10_count_99 rfl (Nat.le_refl 0) (Nat.le_refl 0) rfl
  refine ap_sw (off := 99) (tgt := 100) (v := 6) hC 6 dX10_count_1 rfl rfl (by decide) (by decide) hp5 ?_ (fun hp6 => ?_)
  · refine at_aload_n (j := 0) hC rfl rfl dX10_count_100 ?_
    refine gf_X10_58 hC dX10_count_101 ?_
    refine gf_X10_362 hC dX10_count_104 ?_
    exact at_iret (F := eqA ad) (ra := rI) hC dX10_count_107 rfl (Nat.le_refl 0) (Nat.le_refl 0) rfl
  refine ap_sw (off := 107) (tgt := 108) (v := 7) hC 7 dX10_count_1 rfl rfl (by decide) (by decide) hp6 ?_ (fun hp7 => ?_)
  · refine at_aload_n (j := 0) hC rfl rfl dX10_count_108 ?_
    refine gf_X10_30 hC dX10_count_109 ?_
    refine gf_X10_199 hC dX10_count_112 ?_
    exact at_iret (F := eqA ad) (ra := rI) hC dX10_count_115 rfl (Nat.le_refl 0) (Nat.le_refl 0) rfl
  refine ap_sw (off := 115) (tgt := 116) (v := 8) hC 8 dX10_count_1 rfl rfl (by decide) (by decide) hp7 ?_ (fun hp8 => ?_)
  · refine at_aload_n (j := 0) hC rfl rfl dX10_count_116 ?_
    refine gf_X10_51 hC dX10_count_117 ?_
    refine gf_X10_338 hC dX10_count_120 ?_
    exact at_iret (F := eqA ad) (ra := rI) hC dX10_count_123 rfl (Nat.le_refl 0) (Nat.le_refl 0) rfl
  refine at_swd (tgt := 124) hC 9 dX10_count_1 rfl (by decide) hp8 ?_
  refine at_iconst hC ic_m1 dX10_count_124 ?_
  exact at_iret (F := eqA ad) (ra := rI) hC dX10_count_125 rfl (Nat.le_refl 0) (Nat.le_refl 0) rfl
end G
