section G
variable {z : ZZ} {x : XX} {ad : Nat → Nat} {σ : MS}
theorem dX2_shortYear_0 : decode cX2_shortYear 0 = .ok (.lload_n 1, 1) := by decide +kernel
theorem dX2_shortYear_1 : decode cX2_shortYear 1 = .ok (.lstore 5, 2) := by decide +kernel
theorem dX2_shortYear_3 : decode cX2_shortYear 3 = .ok (.iload_n 3, 1) := by decide +kernel
theorem dX2_shortYear_4 : decode cX2_shortYear 4 = .ok (.iconst 1, 1) := by decide +kernel
theorem dX2_shortYear_5 : decode cX2_shortYear 5 = .ok (.iadd, 1) := by decide +kernel
theorem dX2_shortYear_6 : decode cX2_shortYear 6 = .ok (.istore 7, 2) := by decide +kernel
theorem dX2_shortYear_8 : decode cX2_shortYear 8 = .ok (.iload 7, 2) := by decide +kernel
theorem dX2_shortYear_10 : decode cX2_shortYear 10 = .ok (.iload_n 3, 1) := by decide +kernel
theorem dX2_shortYear_11 : decode cX2_shortYear 11 = .ok (.iload 4, 2) := by decide +kernel
theorem dX2_shortYear_13 : decode cX2_shortYear 13 = .ok (.iadd, 1) := by decide +kernel
theorem dX2_shortYear_14 : decode cX2_shortYear 14 = .ok (.if_icmp .gt 116, 3) := by decide +kernel
theorem dX2_shortYear_17 : decode cX2_shortYear 17 = .ok (.iload 7, 2) := by decide +kernel
theorem dX2_shortYear_19 : decode cX2_shortYear 19 = .ok (.bipush 100, 2) := by decide +kernel
theorem dX2_shortYear_21 : decode cX2_shortYear 21 = .ok (.if_icmp .ge 109, 3) := by decide +kernel
theorem dX2_shortYear_24 : decode cX2_shortYear 24 = .ok (.lload 5, 2) := by decide +kernel
theorem dX2_shortYear_26 : decode cX2_shortYear 26 = .ok (.aload_n 0, 1) := by decide +kernel
theorem dX2_shortYear_27 : decode cX2_shortYear 27 = .ok (.iload 7, 2) := by decide +kernel
theorem dX2_shortYear_29 : decode cX2_shortYear 29 = .ok (.invokevirtual 204, 3) := by decide +kernel
theorem dX2_shortYear_32 : decode cX2_shortYear 32 = .ok (.ladd, 1) := by decide +kernel
theorem dX2_shortYear_33 : decode cX2_shortYear 33 = .ok (.lstore 5, 2) := by decide +kernel
theorem dX2_shortYear_35 : decode cX2_shortYear 35 = .ok (.iconst 0, 1) := by decide +kernel
theorem dX2_shortYear_36 : decode cX2_shortYear 36 = .ok (.istore 8, 2) := by decide +kernel
theorem dX2_shortYear_38 : decode cX2_shortYear 38 = .ok (.iload 8, 2) := by decide +kernel
theorem dX2_shortYear_40 : decode cX2_shortYear 40 = .ok (.aload_n 0, 1) := by decide +kernel
theorem dX2_shortYear_41 : decode cX2_shortYear 41 = .ok (.getfield 15, 3) := by decide +kernel
theorem dX2_shortYear_44 : decode cX2_shortYear 44 = .ok (.getfield 54, 3) := by decide +kernel
theorem dX2_shortYear_47 : decode cX2_shortYear 47 = .ok (.if_icmp .ge 67, 3) := by decide +kernel
theorem dX2_shortYear_50 : decode cX2_shortYear 50 = .ok (.aload_n 0, 1) := by decide +kernel
theorem dX2_shortYear_51 : decode cX2_shortYear 51 = .ok (.getfield 19, 3) := by decide +kernel
theorem dX2_shortYear_54 : decode cX2_shortYear 54 = .ok (.getfield 121, 3) := by decide +kernel
theorem dX2_shortYear_57 : decode cX2_shortYear 57 = .ok (.iload 8, 2) := by decide +kernel
theorem dX2_shortYear_59 : decode cX2_shortYear 59 = .ok (.iaload, 1) := by decide +kernel
theorem dX2_shortYear_60 : decode cX2_shortYear 60 = .ok (.aload_n 0, 1) := by decide +kernel
theorem dX2_shortYear_61 : decode cX2_shortYear 61 = .ok (.getfield 19, 3) := by decide +kernel
theorem dX2_shortYear_64 : decode cX2_shortYear 64 = .ok (.getfield 124, 3) := by decide +kernel
theorem dX2_shortYear_67 : decode cX2_shortYear 67 = .ok (.iload 8, 2) := by decide +kernel
theorem dX2_shortYear_69 : decode cX2_shortYear 69 = .ok (.iaload, 1) := by decide +kernel
theorem dX2_shortYear_70 : decode cX2_shortYear 70 = .ok (.if_icmp .ge 38, 3) := by decide +kernel
theorem dX2_shortYear_73 : decode cX2_shortYear 73 = .ok (.aload_n 0, 1) := by decide +kernel
theorem dX2_shortYear_74 : decode cX2_shortYear 74 = .ok (.getfield 15, 3) := by decide +kernel
theorem dX2_shortYear_77 : decode cX2_shortYear 77 = .ok (.getfield 195, 3) := by decide +kernel
theorem dX2_shortYear_80 : decode cX2_shortYear 80 = .ok (.iload 8, 2) := by decide +kernel
theorem dX2_shortYear_82 : decode cX2_shortYear 82 = .ok (.iaload, 1) := by decide +kernel
theorem dX2_shortYear_83 : decode cX2_shortYear 83 = .ok (.ifCond .ne 25, 3) := by decide +kernel
theorem dX2_shortYear_86 : decode cX2_shortYear 86 = .ok (.lload 5, 2) := by decide +kernel
theorem dX2_shortYear_88 : decode cX2_shortYear 88 = .ok (.aload_n 0, 1) := by decide +kernel
theorem dX2_shortYear_89 : decode cX2_shortYear 89 = .ok (.iload 8, 2) := by decide +kernel
theorem dX2_shortYear_91 : decode cX2_shortYear 91 = .ok (.iload 7, 2) := by decide +kernel
theorem dX2_shortYear_93 : decode cX2_shortYear 93 = .ok (.invokevirtual 133, 3) := by decide +kernel
theorem dX2_shortYear_96 : decode cX2_shortYear 96 = .ok (.aload_n 0, 1) := by decide +kernel
theorem dX2_shortYear_97 : decode cX2_shortYear 97 = .ok (.iload 8, 2) := by decide +kernel
theorem dX2_shortYear_99 : decode cX2_shortYear 99 = .ok (.iload 7, 2) := by decide +kernel
theorem dX2_shortYear_101 : decode cX2_shortYear 101 = .ok (.invokevirtual 137, 3) := by decide +kernel
theorem dX2_shortYear_104 : decode cX2_shortYear 104 = .ok (.ladd, 1) := by decide +kernel
theorem dX2_shortYear_105 : decode cX2_shortYear 105 = .ok (.ladd, 1) := by decide +kernel
theorem dX2_shortYear_106 : decode cX2_shortYear 106 = .ok (.lstore 5, 2) := by decide +kernel
theorem dX2_shortYear_108 : decode cX2_shortYear 108 = .ok (.iinc 8 1, 3) := by decide +kernel
theorem dX2_shortYear_111 : decode cX2_shortYear 111 = .ok (.goto (-73), 3) := by decide +kernel
theorem dX2_shortYear_114 : decode cX2_shortYear 114 = .ok (.lload 5, 2) := by decide +kernel
theorem dX2_shortYear_116 : decode cX2_shortYear 116 = .ok (.lconst 0, 1) := by decide +kernel
theorem dX2_shortYear_117 : decode cX2_shortYear 117 = .ok (.lcmp, 1) := by decide +kernel
theorem dX2_shortYear_118 : decode cX2_shortYear 118 = .ok (.ifCond .ge 6, 3) := by decide +kernel
theorem dX2_shortYear_121 : decode cX2_shortYear 121 = .ok (.iload 7, 2) := by decide +kernel
theorem dX2_shortYear_123 : decode cX2_shortYear 123 = .ok (.ireturn, 1) := by decide +kernel
theorem dX2_shortYear_124 : decode cX2_shortYear 124 = .ok (.iinc 7 1, 3) := by decide +kernel
theorem dX2_shortYear_127 : decode cX2_shortYear 127 = .ok (.goto (-119), 3) := by decide +kernel
theorem dX2_shortYear_130 : decode cX2_shortYear 130 = .ok (.bipush (-5), 2) := by decide +kernel
theorem dX2_shortYear_132 : decode cX2_shortYear 132 = .ok (.ireturn, 1) := by decide +kernel
set_option maxRecDepth 100000 in
theorem t_Cn_shortYear_J108 (hC : CX z ad x cX2_shortYear RX2 9 (some .int)) (hR : x.2.2.1 = rmk 10 0 0) (k_8 : XS → Int32 → Int32 → Int64 → Int32 → Option (Int32 × XS)) (hk_8 : ∀ (τ : XS) (a3 : Int32) (a4 : Int32) (a5 : Int64) (a7 : Int32), AT z x 9 (wX z σ) rI (eqA ad) 0 0 0 0 ad 8 [(0, .ref 76), (3, .int a3), (4, .int a4), (5, .long a5), (7, .int a7)] [] τ (k_8 τ a3 a4 a5 a7)) (k_38 : XS → Int32 → Int32 → Int64 → Int32 → Int32 → Option (Int32 × XS)) (hk_38 : ∀ (τ : XS) (a3 : Int32) (a4 : Int32) (a5 : Int64) (a7 : Int32) (a8 : Int32), AT z x 9 (wX z σ) rI (eqA ad) 0 0 0 0 ad 38 [(0, .ref 76), (3, .int a3), (4, .int a4), (5, .long a5), (7, .int a7), (8, .int a8)] [] τ (k_38 τ a3 a4 a5 a7 a8)) (τ : XS) (a3 : Int32) (a4 : Int32) (a5 : Int64) (a7 : Int32) (a8 : Int32) : AT z x 9 (wX z σ) rI (eqA ad) 0 0 0 0 ad 108 [(0, .ref 76), (3, .int a3), (4, .int a4), (5, .long a5), (7, .int a7), (8, .int a8)] [] τ (Cn_shortYear_J108 k_8 k_38 τ a3 a4 a5 a7 a8) := by
  unfold Cn_shortYear_J108
  refine at_iinc (j := 5) (v := a8 + 1) (lv' := [(8, .int (a8 + 1)), (0, .ref 76), (3, .int a3), (4, .int a4), (5, .long a5), (7, .int a7)]) hC dX2_shortYear_108 rfl rfl (by decide) rfl ?_
  refine at_goto (tgt := 38) hC dX2_shortYear_111 rfl ?_
  refine at_drop (lv' := [(0, .ref 76), (3, .int a3), (4, .int a4), (5, .long a5), (7, .int a7), (8, .int (a8 + 1))]) [1, 2, 3, 4, 5, 0] rfl ?_
  exact hk_38 τ a3 a4 a5 a7 (a8 + 1)
set_option maxRecDepth 100000 in
theorem t_Cn_shortYear_L38 (hC : CX z ad x cX2_shortYear RX2 9 (some .int)) (hR : x.2.2.1 = rmk 10 0 0) (k_8 : XS → Int32 → Int32 → Int64 → Int32 → Option (Int32 × XS)) (hk_8 : ∀ (τ : XS) (a3 : Int32) (a4 : Int32) (a5 : Int64) (a7 : Int32), AT z x 9 (wX z σ) rI (eqA ad) 0 0 0 0 ad 8 [(0, .ref 76), (3, .int a3), (4, .int a4), (5, .long a5), (7, .int a7)] [] τ (k_8 τ a3 a4 a5 a7)) (n : Nat) (τ : XS) (a3 : Int32) (a4 : Int32) (a5 : Int64) (a7 : Int32) (a8 : Int32) : AT z x 9 (wX z σ) rI (eqA ad) 0 0 0 0 ad 38 [(0, .ref 76), (3, .int a3), (4, .int a4), (5, .long a5), (7, .int a7), (8, .int a8)] [] τ (Cn_shortYear_L38 k_8 n τ a3 a4 a5 a7 a8) := by
  revert τ a3 a4 a5 a7 a8
  show ∀ (τ : XS) (a3 : Int32) (a4 : Int32) (a5 : Int64) (a7 : Int32) (a8 : Int32), AT z x 9 (wX z σ) rI (eqA ad) 0 0 0 0 ad 38 [(0, .ref 76), (3, .int a3), (4, .int a4), (5, .long a5), (7, .int a7), (8, .int a8)] [] τ (Cn_shortYear_L38_r k_8 n τ a3 a4 a5 a7 a8)
  induction n with
  | zero => intro τ a3 a4 a5 a7 a8; exact at_none
  | succ n hk_38 =>
    intro τ a3 a4 a5 a7 a8
    unfold Cn_shortYear_L38_r
    refine at_iload (j := 5) hC rfl dX2_shortYear_38 ?_
    refine at_aload_n (j := 0) hC rfl rfl dX2_shortYear_40 ?_
    refine gf_X2_15 hC dX2_shortYear_41 ?_
    refine gf_X2_54 hC dX2_shortYear_44 ?_
    refine at_icmp_ge (tgt := 114) hC dX2_shortYear_47 rfl (fun _ => ?_) (fun _ => ?_)
    · refine at_lload (j := 3) hC rfl dX2_shortYear_114 ?_
      refine at_lconst hC lc_0 dX2_shortYear_116 ?_
      refine at_lcmp hC dX2_shortYear_117 ?_
      refine at_if_ge (tgt := 124) hC dX2_shortYear_118 rfl (fun _ => ?_) (fun _ => ?_)
      · refine at_iinc (j := 4) (v := a7 + 1) (lv' := [(7, .int (a7 + 1)), (0, .ref 76), (3, .int a3), (4, .int a4), (5, .long a5), (8, .int a8)]) hC dX2_shortYear_124 rfl rfl (by decide) rfl ?_
        refine at_goto (tgt := 8) hC dX2_shortYear_127 rfl ?_
        refine at_drop (lv' := [(0, .ref 76), (3, .int a3), (4, .int a4), (5, .long a5), (7, .int (a7 + 1))]) [1, 2, 3, 4, 0] rfl ?_
        exact hk_8 τ a3 a4 a5 (a7 + 1)
      · refine at_iload (j := 4) hC rfl dX2_shortYear_121 ?_
        exact at_iret (F := eqA ad) (ra := rI) hC dX2_shortYear_123 rfl (Nat.le_refl 0) (Nat.le_refl 0) rfl
    · refine at_aload_n (j := 0) hC rfl rfl dX2_shortYear_50 ?_
      refine gf_X2_19 hC dX2_shortYear_51 ?_
      refine gf_X2_121 hC dX2_shortYear_54 ?_
      refine at_iload (j := 5) hC rfl dX2_shortYear_57 ?_
      refine at_iald hC 51 dX2_shortYear_59 cl_51 (fun v2 => ?_)
      refine at_aload_n (j := 0) hC rfl rfl dX2_shortYear_60 ?_
      refine gf_X2_19 hC dX2_shortYear_61 ?_
      refine gf_X2_124 hC dX2_shortYear_64 ?_
      refine at_iload (j := 5) hC rfl dX2_shortYear_67 ?_
      refine at_iald hC 52 dX2_shortYear_69 cl_52 (fun v3 => ?_)
      refine at_icmp_ge (tgt := 108) hC dX2_shortYear_70 rfl (fun _ => ?_) (fun _ => ?_)
      · exact t_Cn_shortYear_J108 hC hR k_8 hk_8 (Cn_shortYear_L38_r k_8 n) hk_38 τ a3 a4 a5 a7 a8
      · refine at_aload_n (j := 0) hC rfl rfl dX2_shortYear_73 ?_
        refine gf_X2_15 hC dX2_shortYear_74 ?_
        refine gf_X2_195 hC dX2_shortYear_77 ?_
        refine at_iload (j := 5) hC rfl dX2_shortYear_80 ?_
        refine at_iald hC 38 dX2_shortYear_82 cl_38 (fun v4 => ?_)
        refine at_if_ne (tgt := 108) hC dX2_shortYear_83 rfl (fun _ => ?_) (fun _ => ?_)
        · exact t_Cn_shortYear_J108 hC hR k_8 hk_8 (Cn_shortYear_L38_r k_8 n) hk_38 τ a3 a4 a5 a7 a8
        · refine at_lload (j := 3) hC rfl dX2_shortYear_86 ?_
          refine at_aload_n (j := 0) hC rfl rfl dX2_shortYear_88 ?_
          refine at_iload (j := 5) hC rfl dX2_shortYear_89 ?_
          refine at_iload (j := 4) hC rfl dX2_shortYear_91 ?_
          refine at_callVJ hC hR lk_X2_133 (c_Cn_duesOf τ a8 a7) dX2_shortYear_93 recX2 rfl rfl ⟨by decide, by decide⟩ (Nat.le_of_ble_eq_true rfl) ⟨Nat.le_refl 0, Nat.le_refl 0⟩ (fun r5 r5s _ => ?_)
          refine at_aload_n (j := 0) hC rfl rfl dX2_shortYear_96 ?_
          refine at_iload (j := 5) hC rfl dX2_shortYear_97 ?_
          refine at_iload (j := 4) hC rfl dX2_shortYear_99 ?_
          refine at_callVJ hC hR lk_X2_137 (c_Cn_taxOf r5s a8 a7) dX2_shortYear_101 recX2 rfl rfl ⟨by decide, by decide⟩ (Nat.le_of_ble_eq_true rfl) ⟨Nat.le_refl 0, Nat.le_refl 0⟩ (fun r6 r6s _ => ?_)
          refine at_ladd hC dX2_shortYear_104 ?_
          refine at_ladd hC dX2_shortYear_105 ?_
          refine at_lstore (lv' := [(5, .long (a5 + (r5 + r6))), (0, .ref 76), (3, .int a3), (4, .int a4), (7, .int a7), (8, .int a8)]) hC dX2_shortYear_106 (by decide) rfl ?_
          refine at_drop (lv' := [(0, .ref 76), (3, .int a3), (4, .int a4), (5, .long (a5 + (r5 + r6))), (7, .int a7), (8, .int a8)]) [1, 2, 3, 0, 4, 5] rfl ?_
          exact t_Cn_shortYear_J108 hC hR k_8 hk_8 (Cn_shortYear_L38_r k_8 n) hk_38 r6s a3 a4 (a5 + (r5 + r6)) a7 a8
set_option maxRecDepth 100000 in
theorem t_Cn_shortYear_L8 (hC : CX z ad x cX2_shortYear RX2 9 (some .int)) (hR : x.2.2.1 = rmk 10 0 0) (n : Nat) (τ : XS) (a3 : Int32) (a4 : Int32) (a5 : Int64) (a7 : Int32) : AT z x 9 (wX z σ) rI (eqA ad) 0 0 0 0 ad 8 [(0, .ref 76), (3, .int a3), (4, .int a4), (5, .long a5), (7, .int a7)] [] τ (Cn_shortYear_L8 n τ a3 a4 a5 a7) := by
  revert τ a3 a4 a5 a7
  show ∀ (τ : XS) (a3 : Int32) (a4 : Int32) (a5 : Int64) (a7 : Int32), AT z x 9 (wX z σ) rI (eqA ad) 0 0 0 0 ad 8 [(0, .ref 76), (3, .int a3), (4, .int a4), (5, .long a5), (7, .int a7)] [] τ (Cn_shortYear_L8_r n τ a3 a4 a5 a7)
  induction n with
  | zero => intro τ a3 a4 a5 a7; exact at_none
  | succ n hk_8 =>
    intro τ a3 a4 a5 a7
    unfold Cn_shortYear_L8_r
    refine at_iload (j := 4) hC rfl dX2_shortYear_8 ?_
    refine at_iload_n (j := 1) hC rfl rfl dX2_shortYear_10 ?_
    refine at_iload (j := 2) hC rfl dX2_shortYear_11 ?_
    refine at_iadd hC dX2_shortYear_13 ?_
    refine at_icmp_gt (tgt := 130) hC dX2_shortYear_14 rfl (fun _ => ?_) (fun _ => ?_)
    · refine at_bipush hC bi_m5 dX2_shortYear_130 ?_
      exact at_iret (F := eqA ad) (ra := rI) hC dX2_shortYear_132 rfl (Nat.le_refl 0) (Nat.le_refl 0) rfl
    · refine at_iload (j := 4) hC rfl dX2_shortYear_17 ?_
      refine at_bipush hC bi_100 dX2_shortYear_19 ?_
      refine at_icmp_ge (tgt := 130) hC dX2_shortYear_21 rfl (fun _ => ?_) (fun _ => ?_)
      · refine at_bipush hC bi_m5 dX2_shortYear_130 ?_
        exact at_iret (F := eqA ad) (ra := rI) hC dX2_shortYear_132 rfl (Nat.le_refl 0) (Nat.le_refl 0) rfl
      · refine at_lload (j := 3) hC rfl dX2_shortYear_24 ?_
        refine at_aload_n (j := 0) hC rfl rfl dX2_shortYear_26 ?_
        refine at_iload (j := 4) hC rfl dX2_shortYear_27 ?_
        refine at_callVJ hC hR lk_X2_204 (c_Cn_apartFromMembers τ a7) dX2_shortYear_29 recX2 rfl rfl ⟨by decide, by decide⟩ (Nat.le_of_ble_eq_true rfl) ⟨Nat.le_refl 0, Nat.le_refl 0⟩ (fun r1 r1s _ => ?_)
        refine at_ladd hC dX2_shortYear_32 ?_
        refine at_lstore (lv' := [(5, .long (a5 + r1)), (0, .ref 76), (3, .int a3), (4, .int a4), (7, .int a7)]) hC dX2_shortYear_33 (by decide) rfl ?_
        refine at_iconst hC ic_0 dX2_shortYear_35 ?_
        refine at_istore (lv' := [(8, .int 0), (5, .long (a5 + r1)), (0, .ref 76), (3, .int a3), (4, .int a4), (7, .int a7)]) hC dX2_shortYear_36 (by decide) rfl ?_
        refine at_drop (lv' := [(0, .ref 76), (3, .int a3), (4, .int a4), (5, .long (a5 + r1)), (7, .int a7), (8, .int 0)]) [2, 3, 4, 1, 5, 0] rfl ?_
        exact t_Cn_shortYear_L38 hC hR (Cn_shortYear_L8_r n) hk_8 100000 r1s a3 a4 (a5 + r1) a7 0
set_option maxRecDepth 100000 in
theorem c_Cn_shortYear (τ : XS) (p0 : Int64) (p1 : Int32) (p2 : Int32) : Ct z (wX z σ) rI eqA yX2_shortYear cX2_shortYear 9 (some .int) 10 0 0 [.ref 76, .long p0, .int p1, .int p2] τ (Cn_shortYear τ p0 p1 p2) := by
  refine Ct.of (by decide) (Nat.le_of_ble_eq_true rfl) (fun ad x hC hR _ => ?_)
  show AT z x 9 (wX z σ) rI (eqA ad) 0 0 0 0 ad 0 [(0, .ref 76), (1, .long p0), (3, .int p1), (4, .int p2)] [] τ (Cn_shortYear τ p0 p1 p2)
  unfold Cn_shortYear
  refine at_lload_n (j := 1) hC rfl rfl dX2_shortYear_0 ?_
  refine at_lstore (lv' := [(5, .long p0), (0, .ref 76), (1, .long p0), (3, .int p1), (4, .int p2)]) hC dX2_shortYear_1 (by decide) rfl ?_
  refine at_iload_n (j := 3) hC rfl rfl dX2_shortYear_3 ?_
  refine at_iconst hC ic_1 dX2_shortYear_4 ?_
  refine at_iadd hC dX2_shortYear_5 ?_
  refine at_istore (lv' := [(7, .int (p1 + 1)), (5, .long p0), (0, .ref 76), (1, .long p0), (3, .int p1), (4, .int p2)]) hC dX2_shortYear_6 (by decide) rfl ?_
  refine at_drop (lv' := [(0, .ref 76), (3, .int p1), (4, .int p2), (5, .long p0), (7, .int (p1 + 1))]) [2, 4, 5, 1, 0] rfl ?_
  exact t_Cn_shortYear_L8 hC hR 100000 τ p1 p2 p0 (p1 + 1)
theorem dX2_leastDue_0 : decode cX2_leastDue 0 = .ok (.bipush (-5), 2) := by decide +kernel
theorem dX2_leastDue_2 : decode cX2_leastDue 2 = .ok (.istore_n 2, 1) := by decide +kernel
theorem dX2_leastDue_3 : decode cX2_leastDue 3 = .ok (.iconst 0, 1) := by decide +kernel
theorem dX2_leastDue_4 : decode cX2_leastDue 4 = .ok (.istore_n 3, 1) := by decide +kernel
theorem dX2_leastDue_5 : decode cX2_leastDue 5 = .ok (.iload_n 3, 1) := by decide +kernel
theorem dX2_leastDue_6 : decode cX2_leastDue 6 = .ok (.aload_n 0, 1) := by decide +kernel
theorem dX2_leastDue_7 : decode cX2_leastDue 7 = .ok (.getfield 15, 3) := by decide +kernel
theorem dX2_leastDue_10 : decode cX2_leastDue 10 = .ok (.getfield 54, 3) := by decide +kernel
theorem dX2_leastDue_13 : decode cX2_leastDue 13 = .ok (.if_icmp .ge 47, 3) := by decide +kernel
theorem dX2_leastDue_16 : decode cX2_leastDue 16 = .ok (.aload_n 0, 1) := by decide +kernel
theorem dX2_leastDue_17 : decode cX2_leastDue 17 = .ok (.getfield 19, 3) := by decide +kernel
theorem dX2_leastDue_20 : decode cX2_leastDue 20 = .ok (.iload_n 3, 1) := by decide +kernel
theorem dX2_leastDue_21 : decode cX2_leastDue 21 = .ok (.iload_n 1, 1) := by decide +kernel
theorem dX2_leastDue_22 : decode cX2_leastDue 22 = .ok (.invokevirtual 63, 3) := by decide +kernel
theorem dX2_leastDue_25 : decode cX2_leastDue 25 = .ok (.iconst 1, 1) := by decide +kernel
theorem dX2_leastDue_26 : decode cX2_leastDue 26 = .ok (.if_icmp .eq 6, 3) := by decide +kernel
theorem dX2_leastDue_29 : decode cX2_leastDue 29 = .ok (.goto 25, 3) := by decide +kernel
theorem dX2_leastDue_32 : decode cX2_leastDue 32 = .ok (.aload_n 0, 1) := by decide +kernel
theorem dX2_leastDue_33 : decode cX2_leastDue 33 = .ok (.iconst 0, 1) := by decide +kernel
theorem dX2_leastDue_34 : decode cX2_leastDue 34 = .ok (.iload_n 3, 1) := by decide +kernel
theorem dX2_leastDue_35 : decode cX2_leastDue 35 = .ok (.iload_n 1, 1) := by decide +kernel
theorem dX2_leastDue_36 : decode cX2_leastDue 36 = .ok (.invokevirtual 67, 3) := by decide +kernel
theorem dX2_leastDue_39 : decode cX2_leastDue 39 = .ok (.istore 4, 2) := by decide +kernel
theorem dX2_leastDue_41 : decode cX2_leastDue 41 = .ok (.iload_n 2, 1) := by decide +kernel
theorem dX2_leastDue_42 : decode cX2_leastDue 42 = .ok (.ifCond .lt 9, 3) := by decide +kernel
theorem dX2_leastDue_45 : decode cX2_leastDue 45 = .ok (.iload 4, 2) := by decide +kernel
theorem dX2_leastDue_47 : decode cX2_leastDue 47 = .ok (.iload_n 2, 1) := by decide +kernel
theorem dX2_leastDue_48 : decode cX2_leastDue 48 = .ok (.if_icmp .ge 6, 3) := by decide +kernel
theorem dX2_leastDue_51 : decode cX2_leastDue 51 = .ok (.iload 4, 2) := by decide +kernel
theorem dX2_leastDue_53 : decode cX2_leastDue 53 = .ok (.istore_n 2, 1) := by decide +kernel
theorem dX2_leastDue_54 : decode cX2_leastDue 54 = .ok (.iinc 3 1, 3) := by decide +kernel
theorem dX2_leastDue_57 : decode cX2_leastDue 57 = .ok (.goto (-52), 3) := by decide +kernel
theorem dX2_leastDue_60 : decode cX2_leastDue 60 = .ok (.iload_n 2, 1) := by decide +kernel
theorem dX2_leastDue_61 : decode cX2_leastDue 61 = .ok (.ireturn, 1) := by decide +kernel
set_option maxRecDepth 100000 in
theorem t_Cn_leastDue_J54 (hC : CX z ad x cX2_leastDue RX2 5 (some .int)) (hR : x.2.2.1 = rmk 8 0 0) (k_5 : XS → Int32 → Int32 → Int32 → Option (Int32 × XS)) (hk_5 : ∀ (τ : XS) (a1 : Int32) (a2 : Int32) (a3 : Int32), AT z x 5 (wX z σ) rI (eqA ad) 0 0 0 0 ad 5 [(0, .ref 76), (1, .int a1), (2, .int a2), (3, .int a3)] [] τ (k_5 τ a1 a2 a3)) (τ : XS) (a1 : Int32) (a2 : Int32) (a3 : Int32) : AT z x 5 (wX z σ) rI (eqA ad) 0 0 0 0 ad 54 [(0, .ref 76), (1, .int a1), (2, .int a2), (3, .int a3)] [] τ (Cn_leastDue_J54 k_5 τ a1 a2 a3) := by
  unfold Cn_leastDue_J54
  refine at_iinc (j := 3) (v := a3 + 1) (lv' := [(3, .int (a3 + 1)), (0, .ref 76), (1, .int a1), (2, .int a2)]) hC dX2_leastDue_54 rfl rfl (by decide) rfl ?_
  refine at_goto (tgt := 5) hC dX2_leastDue_57 rfl ?_
  refine at_drop (lv' := [(0, .ref 76), (1, .int a1), (2, .int a2), (3, .int (a3 + 1))]) [1, 2, 3, 0] rfl ?_
  exact hk_5 τ a1 a2 (a3 + 1)
set_option maxRecDepth 100000 in
theorem t_Cn_leastDue_J51 (hC : CX z ad x cX2_leastDue RX2 5 (some .int)) (hR : x.2.2.1 = rmk 8 0 0) (k_5 : XS → Int32 → Int32 → Int32 → Option (Int32 × XS)) (hk_5 : ∀ (τ : XS) (a1 : Int32) (a2 : Int32) (a3 : Int32), AT z x 5 (wX z σ) rI (eqA ad) 0 0 0 0 ad 5 [(0, .ref 76), (1, .int a1), (2, .int a2), (3, .int a3)] [] τ (k_5 τ a1 a2 a3)) (τ : XS) (a1 : Int32) (a3 : Int32) (a4 : Int32) : AT z x 5 (wX z σ) rI (eqA ad) 0 0 0 0 ad 51 [(0, .ref 76), (1, .int a1), (3, .int a3), (4, .int a4)] [] τ (Cn_leastDue_J51 k_5 τ a1 a3 a4) := by
  unfold Cn_leastDue_J51
  refine at_iload (j := 3) hC rfl dX2_leastDue_51 ?_
  refine at_istore_n (lv' := [(2, .int a4), (0, .ref 76), (1, .int a1), (3, .int a3), (4, .int a4)]) hC rfl dX2_leastDue_53 (by decide) rfl ?_
  refine at_drop (lv' := [(0, .ref 76), (1, .int a1), (2, .int a4), (3, .int a3)]) [1, 2, 0, 3] rfl ?_
  exact t_Cn_leastDue_J54 hC hR k_5 hk_5 τ a1 a4 a3
set_option maxRecDepth 100000 in
theorem t_Cn_leastDue_L5 (hC : CX z ad x cX2_leastDue RX2 5 (some .int)) (hR : x.2.2.1 = rmk 8 0 0) (n : Nat) (τ : XS) (a1 : Int32) (a2 : Int32) (a3 : Int32) : AT z x 5 (wX z σ) rI (eqA ad) 0 0 0 0 ad 5 [(0, .ref 76), (1, .int a1), (2, .int a2), (3, .int a3)] [] τ (Cn_leastDue_L5 n τ a1 a2 a3) := by
  revert τ a1 a2 a3
  show ∀ (τ : XS) (a1 : Int32) (a2 : Int32) (a3 : Int32), AT z x 5 (wX z σ) rI (eqA ad) 0 0 0 0 ad 5 [(0, .ref 76), (1, .int a1), (2, .int a2), (3, .int a3)] [] τ (Cn_leastDue_L5_r n τ a1 a2 a3)
  induction n with
  | zero => intro τ a1 a2 a3; exact at_none
  | succ n hk_5 =>
    intro τ a1 a2 a3
    unfold Cn_leastDue_L5_r
    refine at_iload_n (j := 3) hC rfl rfl dX2_leastDue_5 ?_
    refine at_aload_n (j := 0) hC rfl rfl dX2_leastDue_6 ?_
    refine gf_X2_15 hC dX2_leastDue_7 ?_
    refine gf_X2_54 hC dX2_leastDue_10 ?_
    refine at_icmp_ge (tgt := 60) hC dX2_leastDue_13 rfl (fun _ => ?_) (fun _ => ?_)
    · refine at_iload_n (j := 2) hC rfl rfl dX2_leastDue_60 ?_
      exact at_iret (F := eqA ad) (ra := rI) hC dX2_leastDue_61 rfl (Nat.le_refl 0) (Nat.le_refl 0) rfl
    · refine at_aload_n (j := 0) hC rfl rfl dX2_leastDue_16 ?_
      refine gf_X2_19 hC dX2_leastDue_17 ?_
      refine at_iload_n (j := 3) hC rfl rfl dX2_leastDue_20 ?_
      refine at_iload_n (j := 1) hC rfl rfl dX2_leastDue_21 ?_
      refine at_callVpI hC hR lk_X2_63 (c_Lv_standing τ a3 a1) dX2_leastDue_22 recX4 rfl rfl ⟨by decide, by decide⟩ (Nat.le_of_ble_eq_true rfl) ⟨Nat.le_refl 0, Nat.le_refl 0⟩ (fun r1 _ => ?_)
      refine at_iconst hC ic_1 dX2_leastDue_25 ?_
      refine at_icmp_eq (tgt := 32) hC dX2_leastDue_26 rfl (fun _ => ?_) (fun _ => ?_)
      · refine at_aload_n (j := 0) hC rfl rfl dX2_leastDue_32 ?_
        refine at_iconst hC ic_0 dX2_leastDue_33 ?_
        refine at_iload_n (j := 3) hC rfl rfl dX2_leastDue_34 ?_
        refine at_iload_n (j := 1) hC rfl rfl dX2_leastDue_35 ?_
        refine at_callVI hC hR lk_X2_67 (c_Cn_comesTo τ 0 a3 a1) dX2_leastDue_36 recX2 rfl rfl ⟨by decide, by decide⟩ (Nat.le_of_ble_eq_true rfl) ⟨Nat.le_refl 0, Nat.le_refl 0⟩ (fun r2 r2s _ => ?_)
        refine at_istore (lv' := [(4, .int r2), (0, .ref 76), (1, .int a1), (2, .int a2), (3, .int a3)]) hC dX2_leastDue_39 (by decide) rfl ?_
        refine at_iload_n (j := 3) hC rfl rfl dX2_leastDue_41 ?_
        refine at_if_lt (tgt := 51) hC dX2_leastDue_42 rfl (fun _ => ?_) (fun _ => ?_)
        · refine at_drop (lv' := [(0, .ref 76), (1, .int a1), (3, .int a3), (4, .int r2)]) [1, 2, 4, 0] rfl ?_
          exact t_Cn_leastDue_J51 hC hR (Cn_leastDue_L5_r n) hk_5 r2s a1 a3 r2
        · refine at_iload (j := 0) hC rfl dX2_leastDue_45 ?_
          refine at_iload_n (j := 3) hC rfl rfl dX2_leastDue_47 ?_
          refine at_icmp_ge (tgt := 54) hC dX2_leastDue_48 rfl (fun _ => ?_) (fun _ => ?_)
          · refine at_drop (lv' := [(0, .ref 76), (1, .int a1), (2, .int a2), (3, .int a3)]) [1, 2, 3, 4] rfl ?_
            exact t_Cn_leastDue_J54 hC hR (Cn_leastDue_L5_r n) hk_5 r2s a1 a2 a3
          · refine at_drop (lv' := [(0, .ref 76), (1, .int a1), (3, .int a3), (4, .int r2)]) [1, 2, 4, 0] rfl ?_
            exact t_Cn_leastDue_J51 hC hR (Cn_leastDue_L5_r n) hk_5 r2s a1 a3 r2
      · refine at_goto (tgt := 54) hC dX2_leastDue_29 rfl ?_
        exact t_Cn_leastDue_J54 hC hR (Cn_leastDue_L5_r n) hk_5 τ a1 a2 a3
set_option maxRecDepth 100000 in
theorem c_Cn_leastDue (τ : XS) (p0 : Int32) : Ct z (wX z σ) rI eqA yX2_leastDue cX2_leastDue 5 (some .int) 8 0 0 [.ref 76, .int p0] τ (Cn_leastDue τ p0) := by
  refine Ct.of (by decide) (Nat.le_of_ble_eq_true rfl) (fun ad x hC hR _ => ?_)
  show AT z x 5 (wX z σ) rI (eqA ad) 0 0 0 0 ad 0 [(0, .ref 76), (1, .int p0)] [] τ (Cn_leastDue τ p0)
  unfold Cn_leastDue
  refine at_bipush hC bi_m5 dX2_leastDue_0 ?_
  refine at_istore_n (lv' := [(2, .int (-5)), (0, .ref 76), (1, .int p0)]) hC rfl dX2_leastDue_2 (by decide) rfl ?_
  refine at_iconst hC ic_0 dX2_leastDue_3 ?_
  refine at_istore_n (lv' := [(3, .int 0), (2, .int (-5)), (0, .ref 76), (1, .int p0)]) hC rfl dX2_leastDue_4 (by decide) rfl ?_
  refine at_drop (lv' := [(0, .ref 76), (1, .int p0), (2, .int (-5)), (3, .int 0)]) [2, 3, 1, 0] rfl ?_
  exact t_Cn_leastDue_L5 hC hR 100000 τ p0 (-5) 0
theorem dX2_numberOf_0 : decode cX2_numberOf 0 = .ok (.iload_n 2, 1) := by decide +kernel
theorem dX2_numberOf_1 : decode cX2_numberOf 1 = .ok (.ifCond .ne 10, 3) := by decide +kernel
theorem dX2_numberOf_4 : decode cX2_numberOf 4 = .ok (.aload_n 0, 1) := by decide +kernel
theorem dX2_numberOf_5 : decode cX2_numberOf 5 = .ok (.iload_n 1, 1) := by decide +kernel
theorem dX2_numberOf_6 : decode cX2_numberOf 6 = .ok (.iload_n 3, 1) := by decide +kernel
theorem dX2_numberOf_7 : decode cX2_numberOf 7 = .ok (.invokevirtual 133, 3) := by decide +kernel
theorem dX2_numberOf_10 : decode cX2_numberOf 10 = .ok (.lreturn, 1) := by decide +kernel
theorem dX2_numberOf_11 : decode cX2_numberOf 11 = .ok (.iload_n 2, 1) := by decide +kernel
theorem dX2_numberOf_12 : decode cX2_numberOf 12 = .ok (.iconst 1, 1) := by decide +kernel
theorem dX2_numberOf_13 : decode cX2_numberOf 13 = .ok (.if_icmp .ne 12, 3) := by decide +kernel
theorem dX2_numberOf_16 : decode cX2_numberOf 16 = .ok (.aload_n 0, 1) := by decide +kernel
theorem dX2_numberOf_17 : decode cX2_numberOf 17 = .ok (.iload_n 1, 1) := by decide +kernel
theorem dX2_numberOf_18 : decode cX2_numberOf 18 = .ok (.iload_n 3, 1) := by decide +kernel
theorem dX2_numberOf_19 : decode cX2_numberOf 19 = .ok (.invokevirtual 198, 3) := by decide +kernel
theorem dX2_numberOf_22 : decode cX2_numberOf 22 = .ok (.goto 9, 3) := by decide +kernel
theorem dX2_numberOf_25 : decode cX2_numberOf 25 = .ok (.aload_n 0, 1) := by decide +kernel
theorem dX2_numberOf_26 : decode cX2_numberOf 26 = .ok (.iload_n 1, 1) := by decide +kernel
theorem dX2_numberOf_27 : decode cX2_numberOf 27 = .ok (.iload_n 3, 1) := by decide +kernel
theorem dX2_numberOf_28 : decode cX2_numberOf 28 = .ok (.invokevirtual 218, 3) := by decide +kernel
theorem dX2_numberOf_31 : decode cX2_numberOf 31 = .ok (.lreturn, 1) := by decide +kernel
set_option maxRecDepth 100000 in
theorem c_Cn_numberOf (τ : XS) (p0 : Int32) (p1 : Int32) (p2 : Int32) : Ct z (wX z σ) rJ eqA yX2_numberOf cX2_numberOf 4 (some .long) 10 0 0 [.ref 76, .int p0, .int p1, .int p2] τ (Cn_numberOf τ p0 p1 p2) := by
  refine Ct.of (by decide) (Nat.le_of_ble_eq_true rfl) (fun ad x hC hR _ => ?_)
  show AT z x 4 (wX z σ) rJ (eqA ad) 0 0 0 0 ad 0 [(0, .ref 76), (1, .int p0), (2, .int p1), (3, .int p2)] [] τ (Cn_numberOf τ p0 p1 p2)
  unfold Cn_numberOf
  refine at_iload_n (j := 2) hC rfl rfl dX2_numberOf_0 ?_
  refine at_if_ne (tgt := 11) hC dX2_numberOf_1 rfl (fun _ => ?_) (fun _ => ?_)
  · refine at_iload_n (j := 2) hC rfl rfl dX2_numberOf_11 ?_
    refine at_iconst hC ic_1 dX2_numberOf_12 ?_
    refine at_icmp_ne (tgt := 25) hC dX2_numberOf_13 rfl (fun _ => ?_) (fun _ => ?_)
    · refine at_aload_n (j := 0) hC rfl rfl dX2_numberOf_25 ?_
      refine at_iload_n (j := 1) hC rfl rfl dX2_numberOf_26 ?_
      refine at_iload_n (j := 3) hC rfl rfl dX2_numberOf_27 ?_
      refine at_callVJ hC hR lk_X2_218 (c_Cn_sumOf τ p0 p2) dX2_numberOf_28 recX2 rfl rfl ⟨by decide, by decide⟩ (Nat.le_of_ble_eq_true rfl) ⟨Nat.le_refl 0, Nat.le_refl 0⟩ (fun r1 r1s _ => ?_)
      exact at_lret (F := eqA ad) (ra := rJ) hC dX2_numberOf_31 rfl (Nat.le_refl 0) (Nat.le_refl 0) rfl
    · refine at_aload_n (j := 0) hC rfl rfl dX2_numberOf_16 ?_
      refine at_iload_n (j := 1) hC rfl rfl dX2_numberOf_17 ?_
      refine at_iload_n (j := 3) hC rfl rfl dX2_numberOf_18 ?_
      refine at_callVJ hC hR lk_X2_198 (c_Cn_rentOf τ p0 p2) dX2_numberOf_19 recX2 rfl rfl ⟨by decide, by decide⟩ (Nat.le_of_ble_eq_true rfl) ⟨Nat.le_refl 0, Nat.le_refl 0⟩ (fun r2 r2s _ => ?_)
      refine at_goto (tgt := 31) hC dX2_numberOf_22 rfl ?_
      exact at_lret (F := eqA ad) (ra := rJ) hC dX2_numberOf_31 rfl (Nat.le_refl 0) (Nat.le_refl 0) rfl
  · refine at_aload_n (j := 0) hC rfl rfl dX2_numberOf_4 ?_
    refine at_iload_n (j := 1) hC rfl rfl dX2_numberOf_5 ?_
    refine at_iload_n (j := 3) hC rfl rfl dX2_numberOf_6 ?_
    refine at_callVJ hC hR lk_X2_133 (c_Cn_duesOf τ p0 p2) dX2_numberOf_7 recX2 rfl rfl ⟨by decide, by decide⟩ (Nat.le_of_ble_eq_true rfl) ⟨Nat.le_refl 0, Nat.le_refl 0⟩ (fun r3 r3s _ => ?_)
    exact at_lret (F := eqA ad) (ra := rJ) hC dX2_numberOf_10 rfl (Nat.le_refl 0) (Nat.le_refl 0) rfl
theorem dX3_actAt_0 : decode cX3_actAt 0 = .ok (.iload_n 1, 1) := by decide +kernel
theorem dX3_actAt_1 : decode cX3_actAt 1 = .ok (.ifCond .lt 20, 3) := by decide +kernel
theorem dX3_actAt_4 : decode cX3_actAt 4 = .ok (.iload_n 1, 1) := by decide +kernel
theorem dX3_actAt_5 : decode cX3_actAt 5 = .ok (.aload_n 0, 1) := by decide +kernel
theorem dX3_actAt_6 : decode cX3_actAt 6 = .ok (.getfield 36, 3) := by decide +kernel
theorem dX3_actAt_9 : decode cX3_actAt 9 = .ok (.if_icmp .ge 12, 3) := by decide +kernel
theorem dX3_actAt_12 : decode cX3_actAt 12 = .ok (.aload_n 0, 1) := by decide +kernel
theorem dX3_actAt_13 : decode cX3_actAt 13 = .ok (.getfield 11, 3) := by decide +kernel
theorem dX3_actAt_16 : decode cX3_actAt 16 = .ok (.iload_n 1, 1) := by decide +kernel
theorem dX3_actAt_17 : decode cX3_actAt 17 = .ok (.aaload, 1) := by decide +kernel
theorem dX3_actAt_18 : decode cX3_actAt 18 = .ok (.goto 4, 3) := by decide +kernel
theorem dX3_actAt_21 : decode cX3_actAt 21 = .ok (.aconst_null, 1) := by decide +kernel
theorem dX3_actAt_22 : decode cX3_actAt 22 = .ok (.areturn, 1) := by decide +kernel
set_option maxRecDepth 100000 in
theorem t_Lw_actAt_J22 (hC : CX z ad x cX3_actAt RX3 2 (some (.object "WidowsFund$Act"))) (hR : x.2.2.1 = rmk 1 0 0) (τ : XS) (s0 : Option Nat) : AT z x 2 (wX z σ) rR (eqA ad) 0 0 0 0 ad 22 [] [vr s0] τ ((Lw_actAt_J22 τ s0).map fun r => (r, τ)) := by
  unfold Lw_actAt_J22
  exact at_aretO (F := eqA ad) hC dX3_actAt_22 rfl (Nat.le_refl 0) (Nat.le_refl 0)
set_option maxRecDepth 100000 in
theorem t_Lw_actAt_J21 (hC : CX z ad x cX3_actAt RX3 2 (some (.object "WidowsFund$Act"))) (hR : x.2.2.1 = rmk 1 0 0) (τ : XS) : AT z x 2 (wX z σ) rR (eqA ad) 0 0 0 0 ad 21 [] [] τ ((Lw_actAt_J21 τ).map fun r => (r, τ)) := by
  unfold Lw_actAt_J21
  refine at_nullO hC dX3_actAt_21 ?_
  exact t_Lw_actAt_J22 hC hR τ none
set_option maxRecDepth 100000 in
theorem c_Lw_actAt (τ : XS) (p0 : Int32) : Ct z (wX z σ) rR eqA yX3_actAt cX3_actAt 2 (some (.object "WidowsFund$Act")) 1 0 0 [.ref 57, .int p0] τ ((Lw_actAt τ p0).map fun r => (r, τ)) := by
  refine Ct.of (by decide) (Nat.le_of_ble_eq_true rfl) (fun ad x hC hR _ => ?_)
  show AT z x 2 (wX z σ) rR (eqA ad) 0 0 0 0 ad 0 [(0, .ref 57), (1, .int p0)] [] τ ((Lw_actAt τ p0).map fun r => (r, τ))
  unfold Lw_actAt
  refine at_iload_n (j := 1) hC rfl rfl dX3_actAt_0 ?_
  refine ap_if_lt (tgt := 21) hC dX3_actAt_1 rfl (fun _ => ?_) (fun _ => ?_)
  · refine at_drop (lv' := []) [] rfl ?_
    exact t_Lw_actAt_J21 hC hR τ
  · refine at_iload_n (j := 1) hC rfl rfl dX3_actAt_4 ?_
    refine at_aload_n (j := 0) hC rfl rfl dX3_actAt_5 ?_
    refine gf_X3_36 hC dX3_actAt_6 ?_
    refine ap_icmp_ge (tgt := 21) hC dX3_actAt_9 rfl (fun _ => ?_) (fun _ => ?_)
    · refine at_drop (lv' := []) [] rfl ?_
      exact t_Lw_actAt_J21 hC hR τ
    · refine at_aload_n (j := 0) hC rfl rfl dX3_actAt_12 ?_
      refine gf_X3_11 hC dX3_actAt_13 ?_
      refine at_iload_n (j := 1) hC rfl rfl dX3_actAt_16 ?_
      refine ap_aldq hC 58 dX3_actAt_17 cl_58 (fun v1 => ?_)
      refine at_goto (tgt := 22) hC dX3_actAt_18 rfl ?_
      refine at_drop (lv' := []) [] rfl ?_
      exact t_Lw_actAt_J22 hC hR τ v1
theorem dX3_dayOf_0 : decode cX3_dayOf 0 = .ok (.aload_n 0, 1) := by decide +kernel
theorem dX3_dayOf_1 : decode cX3_dayOf 1 = .ok (.iload_n 1, 1) := by decide +kernel
theorem dX3_dayOf_2 : decode cX3_dayOf 2 = .ok (.invokevirtual 40, 3) := by decide +kernel
theorem dX3_dayOf_5 : decode cX3_dayOf 5 = .ok (.astore_n 2, 1) := by decide +kernel
theorem dX3_dayOf_6 : decode cX3_dayOf 6 = .ok (.aload_n 2, 1) := by decide +kernel
theorem dX3_dayOf_7 : decode cX3_dayOf 7 = .ok (.ifnonnull 9, 3) := by decide +kernel
theorem dX3_dayOf_10 : decode cX3_dayOf 10 = .ok (.sipush 10000, 3) := by decide +kernel
theorem dX3_dayOf_13 : decode cX3_dayOf 13 = .ok (.goto 7, 3) := by decide +kernel
theorem dX3_dayOf_16 : decode cX3_dayOf 16 = .ok (.aload_n 2, 1) := by decide +kernel
theorem dX3_dayOf_17 : decode cX3_dayOf 17 = .ok (.getfield 44, 3) := by decide +kernel
theorem dX3_dayOf_20 : decode cX3_dayOf 20 = .ok (.ireturn, 1) := by decide +kernel
set_option maxRecDepth 100000 in
theorem c_Lw_dayOf (τ : XS) (p0 : Int32) : Ct z (wX z σ) rI eqA yX3_dayOf cX3_dayOf 3 (some .int) 2 0 0 [.ref 57, .int p0] τ ((Lw_dayOf τ p0).map fun r => (r, τ)) := by
  refine Ct.of (by decide) (Nat.le_of_ble_eq_true rfl) (fun ad x hC hR _ => ?_)
  show AT z x 3 (wX z σ) rI (eqA ad) 0 0 0 0 ad 0 [(0, .ref 57), (1, .int p0)] [] τ ((Lw_dayOf τ p0).map fun r => (r, τ))
  unfold Lw_dayOf
  refine at_aload_n (j := 0) hC rfl rfl dX3_dayOf_0 ?_
  refine at_iload_n (j := 1) hC rfl rfl dX3_dayOf_1 ?_
  refine ap_callVR hC hR lk_X3_40 (c_Lw_actAt τ p0) dX3_dayOf_2 recX3 rfl rfl ⟨by decide, by decide⟩ (Nat.le_of_ble_eq_true rfl) ⟨Nat.le_refl 0, Nat.le_refl 0⟩ (fun r1 _ => ?_)
  refine at_astore_nV (lv' := [(2, vr r1), (0, .ref 57), (1, .int p0)]) hC rfl dX3_dayOf_5 (by decide) rfl ?_
  refine at_aload_nV (j := 0) hC rfl rfl dX3_dayOf_6 ?_
  refine ap_ifnonnull (tgt := 16) hC dX3_dayOf_7 rfl ?_ ?_
  · refine at_aload_nV (j := 0) hC rfl rfl dX3_dayOf_16 ?_
    refine ap_oA (pre := []) rfl (fun a_1 _ hg1 => ?_)
    refine at_get (v := .int (tF τ a_1 0)) (C := RX0) (T := TX0) (N := 10) (ci := 0) (j := 0) hC (80 + 7 * a_1) dX3_dayOf_17 inX0 (cla hg1) rfl (by decide) lf_X3_44 rfl rfl ?_
    exact at_iret (F := eqA ad) (ra := rI) hC dX3_dayOf_20 rfl (Nat.le_refl 0) (Nat.le_refl 0) rfl
  · refine at_sipush hC si_10000 dX3_dayOf_10 ?_
    refine at_goto (tgt := 20) hC dX3_dayOf_13 rfl ?_
    exact at_iret (F := eqA ad) (ra := rI) hC dX3_dayOf_20 rfl (Nat.le_refl 0) (Nat.le_refl 0) rfl
theorem dX3_addAct_0 : decode cX3_addAct 0 = .ok (.aload_n 1, 1) := by decide +kernel
theorem dX3_addAct_1 : decode cX3_addAct 1 = .ok (.ifnull 12, 3) := by decide +kernel
theorem dX3_addAct_4 : decode cX3_addAct 4 = .ok (.aload_n 0, 1) := by decide +kernel
theorem dX3_addAct_5 : decode cX3_addAct 5 = .ok (.getfield 36, 3) := by decide +kernel
theorem dX3_addAct_8 : decode cX3_addAct 8 = .ok (.bipush 8, 2) := by decide +kernel
theorem dX3_addAct_10 : decode cX3_addAct 10 = .ok (.if_icmp .le 4, 3) := by decide +kernel
theorem dX3_addAct_13 : decode cX3_addAct 13 = .ok (.return_, 1) := by decide +kernel
theorem dX3_addAct_14 : decode cX3_addAct 14 = .ok (.aload_n 1, 1) := by decide +kernel
theorem dX3_addAct_15 : decode cX3_addAct 15 = .ok (.iload_n 2, 1) := by decide +kernel
theorem dX3_addAct_16 : decode cX3_addAct 16 = .ok (.putfield 44, 3) := by decide +kernel
theorem dX3_addAct_19 : decode cX3_addAct 19 = .ok (.aload_n 0, 1) := by decide +kernel
theorem dX3_addAct_20 : decode cX3_addAct 20 = .ok (.getfield 36, 3) := by decide +kernel
theorem dX3_addAct_23 : decode cX3_addAct 23 = .ok (.istore_n 3, 1) := by decide +kernel
theorem dX3_addAct_24 : decode cX3_addAct 24 = .ok (.iload_n 3, 1) := by decide +kernel
theorem dX3_addAct_25 : decode cX3_addAct 25 = .ok (.ifCond .le 39, 3) := by decide +kernel
theorem dX3_addAct_28 : decode cX3_addAct 28 = .ok (.aload_n 0, 1) := by decide +kernel
theorem dX3_addAct_29 : decode cX3_addAct 29 = .ok (.aload_n 0, 1) := by decide +kernel
theorem dX3_addAct_30 : decode cX3_addAct 30 = .ok (.getfield 17, 3) := by decide +kernel
theorem dX3_addAct_33 : decode cX3_addAct 33 = .ok (.iload_n 3, 1) := by decide +kernel
theorem dX3_addAct_34 : decode cX3_addAct 34 = .ok (.iconst 1, 1) := by decide +kernel
theorem dX3_addAct_35 : decode cX3_addAct 35 = .ok (.isub, 1) := by decide +kernel
theorem dX3_addAct_36 : decode cX3_addAct 36 = .ok (.iaload, 1) := by decide +kernel
theorem dX3_addAct_37 : decode cX3_addAct 37 = .ok (.invokevirtual 47, 3) := by decide +kernel
theorem dX3_addAct_40 : decode cX3_addAct 40 = .ok (.iload_n 2, 1) := by decide +kernel
theorem dX3_addAct_41 : decode cX3_addAct 41 = .ok (.if_icmp .le 23, 3) := by decide +kernel
theorem dX3_addAct_44 : decode cX3_addAct 44 = .ok (.aload_n 0, 1) := by decide +kernel
theorem dX3_addAct_45 : decode cX3_addAct 45 = .ok (.getfield 17, 3) := by decide +kernel
theorem dX3_addAct_48 : decode cX3_addAct 48 = .ok (.iload_n 3, 1) := by decide +kernel
theorem dX3_addAct_49 : decode cX3_addAct 49 = .ok (.aload_n 0, 1) := by decide +kernel
theorem dX3_addAct_50 : decode cX3_addAct 50 = .ok (.getfield 17, 3) := by decide +kernel
theorem dX3_addAct_53 : decode cX3_addAct 53 = .ok (.iload_n 3, 1) := by decide +kernel
theorem dX3_addAct_54 : decode cX3_addAct 54 = .ok (.iconst 1, 1) := by decide +kernel
theorem dX3_addAct_55 : decode cX3_addAct 55 = .ok (.isub, 1) := by decide +kernel
theorem dX3_addAct_56 : decode cX3_addAct 56 = .ok (.iaload, 1) := by decide +kernel
theorem dX3_addAct_57 : decode cX3_addAct 57 = .ok (.iastore, 1) := by decide +kernel
theorem dX3_addAct_58 : decode cX3_addAct 58 = .ok (.iinc 3 (-1), 3) := by decide +kernel
theorem dX3_addAct_61 : decode cX3_addAct 61 = .ok (.goto (-37), 3) := by decide +kernel
theorem dX3_addAct_64 : decode cX3_addAct 64 = .ok (.aload_n 0, 1) := by decide +kernel
theorem dX3_addAct_65 : decode cX3_addAct 65 = .ok (.getfield 17, 3) := by decide +kernel
theorem dX3_addAct_68 : decode cX3_addAct 68 = .ok (.iload_n 3, 1) := by decide +kernel
theorem dX3_addAct_69 : decode cX3_addAct 69 = .ok (.aload_n 0, 1) := by decide +kernel
theorem dX3_addAct_70 : decode cX3_addAct 70 = .ok (.getfield 36, 3) := by decide +kernel
theorem dX3_addAct_73 : decode cX3_addAct 73 = .ok (.iastore, 1) := by decide +kernel
theorem dX3_addAct_74 : decode cX3_addAct 74 = .ok (.aload_n 0, 1) := by decide +kernel
theorem dX3_addAct_75 : decode cX3_addAct 75 = .ok (.getfield 11, 3) := by decide +kernel
theorem dX3_addAct_78 : decode cX3_addAct 78 = .ok (.aload_n 0, 1) := by decide +kernel
theorem dX3_addAct_79 : decode cX3_addAct 79 = .ok (.getfield 36, 3) := by decide +kernel
theorem dX3_addAct_82 : decode cX3_addAct 82 = .ok (.aload_n 1, 1) := by decide +kernel
theorem dX3_addAct_83 : decode cX3_addAct 83 = .ok (.aastore, 1) := by decide +kernel
theorem dX3_addAct_84 : decode cX3_addAct 84 = .ok (.aload_n 0, 1) := by decide +kernel
theorem dX3_addAct_85 : decode cX3_addAct 85 = .ok (.dup, 1) := by decide +kernel
theorem dX3_addAct_86 : decode cX3_addAct 86 = .ok (.getfield 36, 3) := by decide +kernel
theorem dX3_addAct_89 : decode cX3_addAct 89 = .ok (.iconst 1, 1) := by decide +kernel
theorem dX3_addAct_90 : decode cX3_addAct 90 = .ok (.iadd, 1) := by decide +kernel
theorem dX3_addAct_91 : decode cX3_addAct 91 = .ok (.putfield 36, 3) := by decide +kernel
theorem dX3_addAct_94 : decode cX3_addAct 94 = .ok (.return_, 1) := by decide +kernel
set_option maxRecDepth 100000 in
theorem t_Lw_addAct_J64 (hC : CX z ad x cX3_addAct RX3 4 none) (hR : x.2.2.1 = rmk 3 0 0) (τ : XS) (a1 : Option Nat) (a3 : Int32) : AT z x 4 (wX z σ) rU (eqA ad) 0 0 0 0 ad 64 [(0, .ref 57), (1, vr a1), (3, .int a3)] [] τ (Lw_addAct_J64 τ a1 a3) := by
  unfold Lw_addAct_J64
  refine at_aload_n (j := 0) hC rfl rfl dX3_addAct_64 ?_
  refine gf_X3_17 hC dX3_addAct_65 ?_
  refine at_iload_n (j := 2) hC rfl rfl dX3_addAct_68 ?_
  refine at_aload_n (j := 0) hC rfl rfl dX3_addAct_69 ?_
  refine gf_X3_36 hC dX3_addAct_70 ?_
  refine at_iast hC 59 dX3_addAct_73 cl_59 st_59 ?_
  refine at_aload_n (j := 0) hC rfl rfl dX3_addAct_74 ?_
  refine gf_X3_11 hC dX3_addAct_75 ?_
  refine at_aload_n (j := 0) hC rfl rfl dX3_addAct_78 ?_
  refine gf_X3_36 hC dX3_addAct_79 ?_
  refine at_aload_nV (j := 1) hC rfl rfl dX3_addAct_82 ?_
  refine at_astq hC dX3_addAct_83 ?_
  refine at_aload_n (j := 0) hC rfl rfl dX3_addAct_84 ?_
  refine at_dup hC rfl dX3_addAct_85 ?_
  refine gf_X3_36 hC dX3_addAct_86 ?_
  refine at_iconst hC ic_1 dX3_addAct_89 ?_
  refine at_iadd hC dX3_addAct_90 ?_
  refine pf_X3_36 hC dX3_addAct_91 ?_
  exact at_vret (F := eqA ad) (ra := rU) hC dX3_addAct_94 rfl (Nat.le_refl 0) (Nat.le_refl 0) rfl
set_option maxRecDepth 100000 in
theorem t_Lw_addAct_L24 (hC : CX z ad x cX3_addAct RX3 4 none) (hR : x.2.2.1 = rmk 3 0 0) (n : Nat) (τ : XS) (a1 : Option Nat) (a2 : Int32) (a3 : Int32) : AT z x 4 (wX z σ) rU (eqA ad) 0 0 0 0 ad 24 [(0, .ref 57), (1, vr a1), (2, .int a2), (3, .int a3)] [] τ (Lw_addAct_L24 n τ a1 a2 a3) := by
  revert τ a1 a2 a3
  show ∀ (τ : XS) (a1 : Option Nat) (a2 : Int32) (a3 : Int32), AT z x 4 (wX z σ) rU (eqA ad) 0 0 0 0 ad 24 [(0, .ref 57), (1, vr a1), (2, .int a2), (3, .int a3)] [] τ (Lw_addAct_L24_r n τ a1 a2 a3)
  induction n with
  | zero => intro τ a1 a2 a3; exact at_none
  | succ n hk_24 =>
    intro τ a1 a2 a3
    unfold Lw_addAct_L24_r
    refine at_iload_n (j := 3) hC rfl rfl dX3_addAct_24 ?_
    refine at_if_le (tgt := 64) hC dX3_addAct_25 rfl (fun _ => ?_) (fun _ => ?_)
    · refine at_drop (lv' := [(0, .ref 57), (1, vr a1), (3, .int a3)]) [0, 1, 3] rfl ?_
      exact t_Lw_addAct_J64 hC hR τ a1 a3
    · refine at_aload_n (j := 0) hC rfl rfl dX3_addAct_28 ?_
      refine at_aload_n (j := 0) hC rfl rfl dX3_addAct_29 ?_
      refine gf_X3_17 hC dX3_addAct_30 ?_
      refine at_iload_n (j := 3) hC rfl rfl dX3_addAct_33 ?_
      refine at_iconst hC ic_1 dX3_addAct_34 ?_
      refine at_isub hC dX3_addAct_35 ?_
      refine at_iald hC 59 dX3_addAct_36 cl_59 (fun v1 => ?_)
      refine at_callVpI hC hR lk_X3_47 (c_Lw_dayOf τ v1) dX3_addAct_37 recX3 rfl rfl ⟨by decide, by decide⟩ (Nat.le_of_ble_eq_true rfl) ⟨Nat.le_refl 0, Nat.le_refl 0⟩ (fun r2 _ => ?_)
      refine at_iload_n (j := 2) hC rfl rfl dX3_addAct_40 ?_
      refine at_icmp_le (tgt := 64) hC dX3_addAct_41 rfl (fun _ => ?_) (fun _ => ?_)
      · refine at_drop (lv' := [(0, .ref 57), (1, vr a1), (3, .int a3)]) [0, 1, 3] rfl ?_
        exact t_Lw_addAct_J64 hC hR τ a1 a3
      · refine at_aload_n (j := 0) hC rfl rfl dX3_addAct_44 ?_
        refine gf_X3_17 hC dX3_addAct_45 ?_
        refine at_iload_n (j := 3) hC rfl rfl dX3_addAct_48 ?_
        refine at_aload_n (j := 0) hC rfl rfl dX3_addAct_49 ?_
        refine gf_X3_17 hC dX3_addAct_50 ?_
        refine at_iload_n (j := 3) hC rfl rfl dX3_addAct_53 ?_
        refine at_iconst hC ic_1 dX3_addAct_54 ?_
        refine at_isub hC dX3_addAct_55 ?_
        refine at_iald hC 59 dX3_addAct_56 cl_59 (fun v3 => ?_)
        refine at_iast hC 59 dX3_addAct_57 cl_59 st_59 ?_
        refine at_iinc (j := 3) (v := a3 + (-1)) (lv' := [(3, .int (a3 + (-1))), (0, .ref 57), (1, vr a1), (2, .int a2)]) hC dX3_addAct_58 rfl rfl (by decide) rfl ?_
        refine at_goto (tgt := 24) hC dX3_addAct_61 rfl ?_
        refine at_drop (lv' := [(0, .ref 57), (1, vr a1), (2, .int a2), (3, .int (a3 + (-1)))]) [1, 2, 3, 0] rfl ?_
        exact hk_24 (xA τ 303 (upd (τ.2.1 303) a3.toNatClampNeg v3)) a1 a2 (a3 + (-1))
set_option maxRecDepth 100000 in
theorem c_Lw_addAct (τ : XS) (p0 : Option Nat) (p1 : Int32) : Ct z (wX z σ) rU eqA yX3_addAct cX3_addAct 4 none 3 0 0 [.ref 57, vr p0, .int p1] τ (Lw_addAct τ p0 p1) := by
  refine Ct.of (by decide) (by cases p0 <;> exact Nat.le_of_ble_eq_true rfl) (fun ad x hC hR _ => ?_)
  rw [show lv_args 0 [.ref 57, vr p0, .int p1] = [(0, .ref 57), (1, vr p0), (2, .int p1)] from by cases p0 <;> rfl]
  show AT z x 4 (wX z σ) rU (eqA ad) 0 0 0 0 ad 0 [(0, .ref 57), (1, vr p0), (2, .int p1)] [] τ (Lw_addAct τ p0 p1)
  unfold Lw_addAct
  refine at_aload_nV (j := 1) hC rfl rfl dX3_addAct_0 ?_
  refine at_ifnull (tgt := 13) hC dX3_addAct_1 rfl ?_ ?_
  · exact at_vret (F := eqA ad) (ra := rU) hC dX3_addAct_13 rfl (Nat.le_refl 0) (Nat.le_refl 0) rfl
  · refine at_aload_n (j := 0) hC rfl rfl dX3_addAct_4 ?_
    refine gf_X3_36 hC dX3_addAct_5 ?_
    refine at_bipush hC bi_8 dX3_addAct_8 ?_
    refine at_icmp_le (tgt := 14) hC dX3_addAct_10 rfl (fun _ => ?_) (fun _ => ?_)
    · refine at_aload_nV (j := 1) hC rfl rfl dX3_addAct_14 ?_
      refine at_iload_n (j := 2) hC rfl rfl dX3_addAct_15 ?_
      refine at_oA (pre := [.int p1]) rfl (fun a_1 _ hg1 => ?_)
      show AT z x 4 (wX z σ) rU (eqA ad) 0 0 0 0 ad 16 [(0, .ref 57), (1, vr p0), (2, .int p1)] [.int p1, .ref (80 + 7 * a_1)] τ _
      refine at_put (C := RX0) (T := TX0) (N := 10) (ci := 0) (j := 0) (ty := .int) (ty0 := tyX0) hC (80 + 7 * a_1) dX3_addAct_16 inX0 tyX0_ok nmX0 (cla hg1) rfl (by decide) lf_X3_44 rfl rfl (by decide +kernel) rfl rfl (Nat.le_of_ble_eq_true rfl) (sta0 hg1) ?_
      refine at_aload_n (j := 0) hC rfl rfl dX3_addAct_19 ?_
      refine gf_X3_36 hC dX3_addAct_20 ?_
      refine at_istore_n (lv' := [(3, .int ((xTI τ a_1 0 p1).1 302)), (0, .ref 57), (1, vr p0), (2, .int p1)]) hC rfl dX3_addAct_23 (by decide) rfl ?_
      refine at_drop (lv' := [(0, .ref 57), (1, vr p0), (2, .int p1), (3, .int ((xTI τ a_1 0 p1).1 302))]) [1, 2, 3, 0] rfl ?_
      exact t_Lw_addAct_L24 hC hR 100000 (xTI τ a_1 0 p1) p0 p1 ((xTI τ a_1 0 p1).1 302)
    · exact at_vret (F := eqA ad) (ra := rU) hC dX3_addAct_13 rfl (Nat.le_refl 0) (Nat.le_refl 0) rfl
theorem dX3_dropLastAct_0 : decode cX3_dropLastAct 0 = .ok (.aload_n 0, 1) := by decide +kernel
theorem dX3_dropLastAct_1 : decode cX3_dropLastAct 1 = .ok (.getfield 36, 3) := by decide +kernel
theorem dX3_dropLastAct_4 : decode cX3_dropLastAct 4 = .ok (.iconst 1, 1) := by decide +kernel
theorem dX3_dropLastAct_5 : decode cX3_dropLastAct 5 = .ok (.if_icmp .ge 4, 3) := by decide +kernel
theorem dX3_dropLastAct_8 : decode cX3_dropLastAct 8 = .ok (.return_, 1) := by decide +kernel
theorem dX3_dropLastAct_9 : decode cX3_dropLastAct 9 = .ok (.iconst 0, 1) := by decide +kernel
theorem dX3_dropLastAct_10 : decode cX3_dropLastAct 10 = .ok (.istore_n 1, 1) := by decide +kernel
theorem dX3_dropLastAct_11 : decode cX3_dropLastAct 11 = .ok (.iconst 0, 1) := by decide +kernel
theorem dX3_dropLastAct_12 : decode cX3_dropLastAct 12 = .ok (.istore_n 2, 1) := by decide +kernel
theorem dX3_dropLastAct_13 : decode cX3_dropLastAct 13 = .ok (.iload_n 2, 1) := by decide +kernel
theorem dX3_dropLastAct_14 : decode cX3_dropLastAct 14 = .ok (.aload_n 0, 1) := by decide +kernel
theorem dX3_dropLastAct_15 : decode cX3_dropLastAct 15 = .ok (.getfield 36, 3) := by decide +kernel
theorem dX3_dropLastAct_18 : decode cX3_dropLastAct 18 = .ok (.if_icmp .ge 39, 3) := by decide +kernel
theorem dX3_dropLastAct_21 : decode cX3_dropLastAct 21 = .ok (.aload_n 0, 1) := by decide +kernel
theorem dX3_dropLastAct_22 : decode cX3_dropLastAct 22 = .ok (.getfield 17, 3) := by decide +kernel
theorem dX3_dropLastAct_25 : decode cX3_dropLastAct 25 = .ok (.iload_n 2, 1) := by decide +kernel
theorem dX3_dropLastAct_26 : decode cX3_dropLastAct 26 = .ok (.iaload, 1) := by decide +kernel
theorem dX3_dropLastAct_27 : decode cX3_dropLastAct 27 = .ok (.aload_n 0, 1) := by decide +kernel
theorem dX3_dropLastAct_28 : decode cX3_dropLastAct 28 = .ok (.getfield 36, 3) := by decide +kernel
theorem dX3_dropLastAct_31 : decode cX3_dropLastAct 31 = .ok (.iconst 1, 1) := by decide +kernel
theorem dX3_dropLastAct_32 : decode cX3_dropLastAct 32 = .ok (.isub, 1) := by decide +kernel
theorem dX3_dropLastAct_33 : decode cX3_dropLastAct 33 = .ok (.if_icmp .eq 18, 3) := by decide +kernel
theorem dX3_dropLastAct_36 : decode cX3_dropLastAct 36 = .ok (.aload_n 0, 1) := by decide +kernel
theorem dX3_dropLastAct_37 : decode cX3_dropLastAct 37 = .ok (.getfield 17, 3) := by decide +kernel
theorem dX3_dropLastAct_40 : decode cX3_dropLastAct 40 = .ok (.iload_n 1, 1) := by decide +kernel
theorem dX3_dropLastAct_41 : decode cX3_dropLastAct 41 = .ok (.iinc 1 1, 3) := by decide +kernel
theorem dX3_dropLastAct_44 : decode cX3_dropLastAct 44 = .ok (.aload_n 0, 1) := by decide +kernel
theorem dX3_dropLastAct_45 : decode cX3_dropLastAct 45 = .ok (.getfield 17, 3) := by decide +kernel
theorem dX3_dropLastAct_48 : decode cX3_dropLastAct 48 = .ok (.iload_n 2, 1) := by decide +kernel
theorem dX3_dropLastAct_49 : decode cX3_dropLastAct 49 = .ok (.iaload, 1) := by decide +kernel
theorem dX3_dropLastAct_50 : decode cX3_dropLastAct 50 = .ok (.iastore, 1) := by decide +kernel
theorem dX3_dropLastAct_51 : decode cX3_dropLastAct 51 = .ok (.iinc 2 1, 3) := by decide +kernel
theorem dX3_dropLastAct_54 : decode cX3_dropLastAct 54 = .ok (.goto (-41), 3) := by decide +kernel
theorem dX3_dropLastAct_57 : decode cX3_dropLastAct 57 = .ok (.aload_n 0, 1) := by decide +kernel
theorem dX3_dropLastAct_58 : decode cX3_dropLastAct 58 = .ok (.dup, 1) := by decide +kernel
theorem dX3_dropLastAct_59 : decode cX3_dropLastAct 59 = .ok (.getfield 36, 3) := by decide +kernel
theorem dX3_dropLastAct_62 : decode cX3_dropLastAct 62 = .ok (.iconst 1, 1) := by decide +kernel
theorem dX3_dropLastAct_63 : decode cX3_dropLastAct 63 = .ok (.isub, 1) := by decide +kernel
theorem dX3_dropLastAct_64 : decode cX3_dropLastAct 64 = .ok (.putfield 36, 3) := by decide +kernel
theorem dX3_dropLastAct_67 : decode cX3_dropLastAct 67 = .ok (.aload_n 0, 1) := by decide +kernel
theorem dX3_dropLastAct_68 : decode cX3_dropLastAct 68 = .ok (.getfield 11, 3) := by decide +kernel
theorem dX3_dropLastAct_71 : decode cX3_dropLastAct 71 = .ok (.aload_n 0, 1) := by decide +kernel
theorem dX3_dropLastAct_72 : decode cX3_dropLastAct 72 = .ok (.getfield 36, 3) := by decide +kernel
theorem dX3_dropLastAct_75 : decode cX3_dropLastAct 75 = .ok (.aconst_null, 1) := by decide +kernel
theorem dX3_dropLastAct_76 : decode cX3_dropLastAct 76 = .ok (.aastore, 1) := by decide +kernel
theorem dX3_dropLastAct_77 : decode cX3_dropLastAct 77 = .ok (.return_, 1) := by decide +kernel
set_option maxRecDepth 100000 in
theorem t_Lw_dropLastAct_J51 (hC : CX z ad x cX3_dropLastAct RX3 3 none) (hR : x.2.2.1 = rmk 1 0 0) (k_13 : XS → Int32 → Int32 → Option (Unit × XS)) (hk_13 : ∀ (τ : XS) (a1 : Int32) (a2 : Int32), AT z x 3 (wX z σ) rU (eqA ad) 0 0 0 0 ad 13 [(0, .ref 57), (1, .int a1), (2, .int a2)] [] τ (k_13 τ a1 a2)) (τ : XS) (a1 : Int32) (a2 : Int32) : AT z x 3 (wX z σ) rU (eqA ad) 0 0 0 0 ad 51 [(0, .ref 57), (1, .int a1), (2, .int a2)] [] τ (Lw_dropLastAct_J51 k_13 τ a1 a2) := by
  unfold Lw_dropLastAct_J51
  refine at_iinc (j := 2) (v := a2 + 1) (lv' := [(2, .int (a2 + 1)), (0, .ref 57), (1, .int a1)]) hC dX3_dropLastAct_51 rfl rfl (by decide) rfl ?_
  refine at_goto (tgt := 13) hC dX3_dropLastAct_54 rfl ?_
  refine at_drop (lv' := [(0, .ref 57), (1, .int a1), (2, .int (a2 + 1))]) [1, 2, 0] rfl ?_
  exact hk_13 τ a1 (a2 + 1)
set_option maxRecDepth 100000 in
theorem t_Lw_dropLastAct_L13 (hC : CX z ad x cX3_dropLastAct RX3 3 none) (hR : x.2.2.1 = rmk 1 0 0) (n : Nat) (τ : XS) (a1 : Int32) (a2 : Int32) : AT z x 3 (wX z σ) rU (eqA ad) 0 0 0 0 ad 13 [(0, .ref 57), (1, .int a1), (2, .int a2)] [] τ (Lw_dropLastAct_L13 n τ a1 a2) := by
  revert τ a1 a2
  show ∀ (τ : XS) (a1 : Int32) (a2 : Int32), AT z x 3 (wX z σ) rU (eqA ad) 0 0 0 0 ad 13 [(0, .ref 57), (1, .int a1), (2, .int a2)] [] τ (Lw_dropLastAct_L13_r n τ a1 a2)
  induction n with
  | zero => intro τ a1 a2; exact at_none
  | succ n hk_13 =>
    intro τ a1 a2
    unfold Lw_dropLastAct_L13_r
    refine at_iload_n (j := 2) hC rfl rfl dX3_dropLastAct_13 ?_
    refine at_aload_n (j := 0) hC rfl rfl dX3_dropLastAct_14 ?_
    refine gf_X3_36 hC dX3_dropLastAct_15 ?_
    refine at_icmp_ge (tgt := 57) hC dX3_dropLastAct_18 rfl (fun _ => ?_) (fun _ => ?_)
    · refine at_aload_n (j := 0) hC rfl rfl dX3_dropLastAct_57 ?_
      refine at_dup hC rfl dX3_dropLastAct_58 ?_
      refine gf_X3_36 hC dX3_dropLastAct_59 ?_
      refine at_iconst hC ic_1 dX3_dropLastAct_62 ?_
      refine at_isub hC dX3_dropLastAct_63 ?_
      refine pf_X3_36 hC dX3_dropLastAct_64 ?_
      refine at_aload_n (j := 0) hC rfl rfl dX3_dropLastAct_67 ?_
      refine gf_X3_11 hC dX3_dropLastAct_68 ?_
      refine at_aload_n (j := 0) hC rfl rfl dX3_dropLastAct_71 ?_
      refine gf_X3_36 hC dX3_dropLastAct_72 ?_
      refine at_nullO hC dX3_dropLastAct_75 ?_
      refine at_astq hC dX3_dropLastAct_76 ?_
      exact at_vret (F := eqA ad) (ra := rU) hC dX3_dropLastAct_77 rfl (Nat.le_refl 0) (Nat.le_refl 0) rfl
    · refine at_aload_n (j := 0) hC rfl rfl dX3_dropLastAct_21 ?_
      refine gf_X3_17 hC dX3_dropLastAct_22 ?_
      refine at_iload_n (j := 2) hC rfl rfl dX3_dropLastAct_25 ?_
      refine at_iald hC 59 dX3_dropLastAct_26 cl_59 (fun v1 => ?_)
      refine at_aload_n (j := 0) hC rfl rfl dX3_dropLastAct_27 ?_
      refine gf_X3_36 hC dX3_dropLastAct_28 ?_
      refine at_iconst hC ic_1 dX3_dropLastAct_31 ?_
      refine at_isub hC dX3_dropLastAct_32 ?_
      refine at_icmp_eq (tgt := 51) hC dX3_dropLastAct_33 rfl (fun _ => ?_) (fun _ => ?_)
      · exact t_Lw_dropLastAct_J51 hC hR (Lw_dropLastAct_L13_r n) hk_13 τ a1 a2
      · refine at_aload_n (j := 0) hC rfl rfl dX3_dropLastAct_36 ?_
        refine gf_X3_17 hC dX3_dropLastAct_37 ?_
        refine at_iload_n (j := 1) hC rfl rfl dX3_dropLastAct_40 ?_
        refine at_iinc (j := 1) (v := a1 + 1) (lv' := [(1, .int (a1 + 1)), (0, .ref 57), (2, .int a2)]) hC dX3_dropLastAct_41 rfl rfl (by decide) rfl ?_
        refine at_aload_n (j := 1) hC rfl rfl dX3_dropLastAct_44 ?_
        refine gf_X3_17 hC dX3_dropLastAct_45 ?_
        refine at_iload_n (j := 2) hC rfl rfl dX3_dropLastAct_48 ?_
        refine at_iald hC 59 dX3_dropLastAct_49 cl_59 (fun v2 => ?_)
        refine at_iast hC 59 dX3_dropLastAct_50 cl_59 st_59 ?_
        refine at_drop (lv' := [(0, .ref 57), (1, .int (a1 + 1)), (2, .int a2)]) [1, 0, 2] rfl ?_
        exact t_Lw_dropLastAct_J51 hC hR (Lw_dropLastAct_L13_r n) hk_13 (xA τ 303 (upd (τ.2.1 303) a1.toNatClampNeg v2)) (a1 + 1) a2
set_option maxRecDepth 100000 in
theorem c_Lw_dropLastAct (τ : XS) : Ct z (wX z σ) rU eqA yX3_dropLastAct cX3_dropLastAct 3 none 1 0 0 [.ref 57] τ (Lw_dropLastAct τ) := by
  refine Ct.of (by decide) (Nat.le_of_ble_eq_true rfl) (fun ad x hC hR _ => ?_)
  show AT z x 3 (wX z σ) rU (eqA ad) 0 0 0 0 ad 0 [(0, .ref 57)] [] τ (Lw_dropLastAct τ)
  unfold Lw_dropLastAct
  refine at_aload_n (j := 0) hC rfl rfl dX3_dropLastAct_0 ?_
  refine gf_X3_36 hC dX3_dropLastAct_1 ?_
  refine at_iconst hC ic_1 dX3_dropLastAct_4 ?_
  refine at_icmp_ge (tgt := 9) hC dX3_dropLastAct_5 rfl (fun _ => ?_) (fun _ => ?_)
  · refine at_iconst hC ic_0 dX3_dropLastAct_9 ?_
    refine at_istore_n (lv' := [(1, .int 0), (0, .ref 57)]) hC rfl dX3_dropLastAct_10 (by decide) rfl ?_
    refine at_iconst hC ic_0 dX3_dropLastAct_11 ?_
    refine at_istore_n (lv' := [(2, .int 0), (1, .int 0), (0, .ref 57)]) hC rfl dX3_dropLastAct_12 (by decide) rfl ?_
    refine at_drop (lv' := [(0, .ref 57), (1, .int 0), (2, .int 0)]) [2, 1, 0] rfl ?_
    exact t_Lw_dropLastAct_L13 hC hR 100000 τ 0 0
  · exact at_vret (F := eqA ad) (ra := rU) hC dX3_dropLastAct_8 rfl (Nat.le_refl 0) (Nat.le_refl 0) rfl
theorem dX3_otherClause_0 : decode cX3_otherClause 0 = .ok (.aload_n 0, 1) := by decide +kernel
theorem dX3_otherClause_1 : decode cX3_otherClause 1 = .ok (.getfield 108, 3) := by decide +kernel
theorem dX3_otherClause_4 : decode cX3_otherClause 4 = .ok (.ifCond .ge 6, 3) := by decide +kernel
theorem dX3_otherClause_7 : decode cX3_otherClause 7 = .ok (.bipush (-5), 2) := by decide +kernel
theorem dX3_otherClause_9 : decode cX3_otherClause 9 = .ok (.ireturn, 1) := by decide +kernel
theorem dX3_otherClause_10 : decode cX3_otherClause 10 = .ok (.aload_n 0, 1) := by decide +kernel
theorem dX3_otherClause_11 : decode cX3_otherClause 11 = .ok (.getfield 36, 3) := by decide +kernel
theorem dX3_otherClause_14 : decode cX3_otherClause 14 = .ok (.iconst 1, 1) := by decide +kernel
theorem dX3_otherClause_15 : decode cX3_otherClause 15 = .ok (.isub, 1) := by decide +kernel
theorem dX3_otherClause_16 : decode cX3_otherClause 16 = .ok (.istore_n 3, 1) := by decide +kernel
theorem dX3_otherClause_17 : decode cX3_otherClause 17 = .ok (.iload_n 3, 1) := by decide +kernel
theorem dX3_otherClause_18 : decode cX3_otherClause 18 = .ok (.ifCond .lt 172, 3) := by decide +kernel
theorem dX3_otherClause_21 : decode cX3_otherClause 21 = .ok (.aload_n 0, 1) := by decide +kernel
theorem dX3_otherClause_22 : decode cX3_otherClause 22 = .ok (.getfield 11, 3) := by decide +kernel
theorem dX3_otherClause_25 : decode cX3_otherClause 25 = .ok (.aload_n 0, 1) := by decide +kernel
theorem dX3_otherClause_26 : decode cX3_otherClause 26 = .ok (.getfield 17, 3) := by decide +kernel
theorem dX3_otherClause_29 : decode cX3_otherClause 29 = .ok (.iload_n 3, 1) := by decide +kernel
theorem dX3_otherClause_30 : decode cX3_otherClause 30 = .ok (.iaload, 1) := by decide +kernel
theorem dX3_otherClause_31 : decode cX3_otherClause 31 = .ok (.aaload, 1) := by decide +kernel
theorem dX3_otherClause_32 : decode cX3_otherClause 32 = .ok (.astore 4, 2) := by decide +kernel
theorem dX3_otherClause_34 : decode cX3_otherClause 34 = .ok (.aload 4, 2) := by decide +kernel
theorem dX3_otherClause_36 : decode cX3_otherClause 36 = .ok (.ifnull 148, 3) := by decide +kernel
theorem dX3_otherClause_39 : decode cX3_otherClause 39 = .ok (.aload 4, 2) := by decide +kernel
theorem dX3_otherClause_41 : decode cX3_otherClause 41 = .ok (.getfield 44, 3) := by decide +kernel
theorem dX3_otherClause_44 : decode cX3_otherClause 44 = .ok (.aload_n 0, 1) := by decide +kernel
theorem dX3_otherClause_45 : decode cX3_otherClause 45 = .ok (.getfield 111, 3) := by decide +kernel
theorem dX3_otherClause_48 : decode cX3_otherClause 48 = .ok (.if_icmp .eq 6, 3) := by decide +kernel
theorem dX3_otherClause_51 : decode cX3_otherClause 51 = .ok (.goto 133, 3) := by decide +kernel
theorem dX3_otherClause_54 : decode cX3_otherClause 54 = .ok (.aload 4, 2) := by decide +kernel
theorem dX3_otherClause_56 : decode cX3_otherClause 56 = .ok (.getfield 86, 3) := by decide +kernel
theorem dX3_otherClause_59 : decode cX3_otherClause 59 = .ok (.iconst 1, 1) := by decide +kernel
theorem dX3_otherClause_60 : decode cX3_otherClause 60 = .ok (.isub, 1) := by decide +kernel
theorem dX3_otherClause_61 : decode cX3_otherClause 61 = .ok (.istore 5, 2) := by decide +kernel
theorem dX3_otherClause_63 : decode cX3_otherClause 63 = .ok (.iload 5, 2) := by decide +kernel
theorem dX3_otherClause_65 : decode cX3_otherClause 65 = .ok (.ifCond .lt 119, 3) := by decide +kernel
theorem dX3_otherClause_68 : decode cX3_otherClause 68 = .ok (.aload 4, 2) := by decide +kernel
theorem dX3_otherClause_70 : decode cX3_otherClause 70 = .ok (.getfield 89, 3) := by decide +kernel
theorem dX3_otherClause_73 : decode cX3_otherClause 73 = .ok (.iload 5, 2) := by decide +kernel
theorem dX3_otherClause_75 : decode cX3_otherClause 75 = .ok (.iaload, 1) := by decide +kernel
theorem dX3_otherClause_76 : decode cX3_otherClause 76 = .ok (.iload_n 1, 1) := by decide +kernel
theorem dX3_otherClause_77 : decode cX3_otherClause 77 = .ok (.if_icmp .ne 101, 3) := by decide +kernel
theorem dX3_otherClause_80 : decode cX3_otherClause 80 = .ok (.aload 4, 2) := by decide +kernel
theorem dX3_otherClause_82 : decode cX3_otherClause 82 = .ok (.getfield 92, 3) := by decide +kernel
theorem dX3_otherClause_85 : decode cX3_otherClause 85 = .ok (.iload 5, 2) := by decide +kernel
theorem dX3_otherClause_87 : decode cX3_otherClause 87 = .ok (.iaload, 1) := by decide +kernel
theorem dX3_otherClause_88 : decode cX3_otherClause 88 = .ok (.iload_n 2, 1) := by decide +kernel
theorem dX3_otherClause_89 : decode cX3_otherClause 89 = .ok (.if_icmp .gt 6, 3) := by decide +kernel
theorem dX3_otherClause_92 : decode cX3_otherClause 92 = .ok (.goto 86, 3) := by decide +kernel
theorem dX3_otherClause_95 : decode cX3_otherClause 95 = .ok (.aload_n 0, 1) := by decide +kernel
theorem dX3_otherClause_96 : decode cX3_otherClause 96 = .ok (.aload 4, 2) := by decide +kernel
theorem dX3_otherClause_98 : decode cX3_otherClause 98 = .ok (.getfield 95, 3) := by decide +kernel
theorem dX3_otherClause_101 : decode cX3_otherClause 101 = .ok (.aload 4, 2) := by decide +kernel
theorem dX3_otherClause_103 : decode cX3_otherClause 103 = .ok (.getfield 98, 3) := by decide +kernel
theorem dX3_otherClause_106 : decode cX3_otherClause 106 = .ok (.iload 5, 2) := by decide +kernel
theorem dX3_otherClause_108 : decode cX3_otherClause 108 = .ok (.iaload, 1) := by decide +kernel
theorem dX3_otherClause_109 : decode cX3_otherClause 109 = .ok (.aload 4, 2) := by decide +kernel
theorem dX3_otherClause_111 : decode cX3_otherClause 111 = .ok (.getfield 101, 3) := by decide +kernel
theorem dX3_otherClause_114 : decode cX3_otherClause 114 = .ok (.iload 5, 2) := by decide +kernel
theorem dX3_otherClause_116 : decode cX3_otherClause 116 = .ok (.iaload, 1) := by decide +kernel
theorem dX3_otherClause_117 : decode cX3_otherClause 117 = .ok (.invokevirtual 104, 3) := by decide +kernel
theorem dX3_otherClause_120 : decode cX3_otherClause 120 = .ok (.ifCond .ne 6, 3) := by decide +kernel
theorem dX3_otherClause_123 : decode cX3_otherClause 123 = .ok (.goto 55, 3) := by decide +kernel
theorem dX3_otherClause_126 : decode cX3_otherClause 126 = .ok (.aload_n 0, 1) := by decide +kernel
theorem dX3_otherClause_127 : decode cX3_otherClause 127 = .ok (.aload 4, 2) := by decide +kernel
theorem dX3_otherClause_129 : decode cX3_otherClause 129 = .ok (.getfield 95, 3) := by decide +kernel
theorem dX3_otherClause_132 : decode cX3_otherClause 132 = .ok (.aload 4, 2) := by decide +kernel
theorem dX3_otherClause_134 : decode cX3_otherClause 134 = .ok (.getfield 114, 3) := by decide +kernel
theorem dX3_otherClause_137 : decode cX3_otherClause 137 = .ok (.iload 5, 2) := by decide +kernel
theorem dX3_otherClause_139 : decode cX3_otherClause 139 = .ok (.iaload, 1) := by decide +kernel
theorem dX3_otherClause_140 : decode cX3_otherClause 140 = .ok (.aload 4, 2) := by decide +kernel
theorem dX3_otherClause_142 : decode cX3_otherClause 142 = .ok (.getfield 98, 3) := by decide +kernel
theorem dX3_otherClause_145 : decode cX3_otherClause 145 = .ok (.iload 5, 2) := by decide +kernel
theorem dX3_otherClause_147 : decode cX3_otherClause 147 = .ok (.iaload, 1) := by decide +kernel
theorem dX3_otherClause_148 : decode cX3_otherClause 148 = .ok (.invokevirtual 104, 3) := by decide +kernel
theorem dX3_otherClause_151 : decode cX3_otherClause 151 = .ok (.invokestatic 117, 3) := by decide +kernel
theorem dX3_otherClause_154 : decode cX3_otherClause 154 = .ok (.istore 6, 2) := by decide +kernel
theorem dX3_otherClause_156 : decode cX3_otherClause 156 = .ok (.iload 6, 2) := by decide +kernel
theorem dX3_otherClause_158 : decode cX3_otherClause 158 = .ok (.aload_n 0, 1) := by decide +kernel
theorem dX3_otherClause_159 : decode cX3_otherClause 159 = .ok (.getfield 120, 3) := by decide +kernel
theorem dX3_otherClause_162 : decode cX3_otherClause 162 = .ok (.if_icmp .eq 16, 3) := by decide +kernel
theorem dX3_otherClause_165 : decode cX3_otherClause 165 = .ok (.bipush 100, 2) := by decide +kernel
theorem dX3_otherClause_167 : decode cX3_otherClause 167 = .ok (.aload_n 0, 1) := by decide +kernel
theorem dX3_otherClause_168 : decode cX3_otherClause 168 = .ok (.getfield 17, 3) := by decide +kernel
theorem dX3_otherClause_171 : decode cX3_otherClause 171 = .ok (.iload_n 3, 1) := by decide +kernel
theorem dX3_otherClause_172 : decode cX3_otherClause 172 = .ok (.iaload, 1) := by decide +kernel
theorem dX3_otherClause_173 : decode cX3_otherClause 173 = .ok (.imul, 1) := by decide +kernel
theorem dX3_otherClause_174 : decode cX3_otherClause 174 = .ok (.iload 5, 2) := by decide +kernel
theorem dX3_otherClause_176 : decode cX3_otherClause 176 = .ok (.iadd, 1) := by decide +kernel
theorem dX3_otherClause_177 : decode cX3_otherClause 177 = .ok (.ireturn, 1) := by decide +kernel
theorem dX3_otherClause_178 : decode cX3_otherClause 178 = .ok (.iinc 5 (-1), 3) := by decide +kernel
theorem dX3_otherClause_181 : decode cX3_otherClause 181 = .ok (.goto (-118), 3) := by decide +kernel
theorem dX3_otherClause_184 : decode cX3_otherClause 184 = .ok (.iinc 3 (-1), 3) := by decide +kernel
theorem dX3_otherClause_187 : decode cX3_otherClause 187 = .ok (.goto (-170), 3) := by decide +kernel
theorem dX3_otherClause_190 : decode cX3_otherClause 190 = .ok (.bipush (-5), 2) := by decide +kernel
theorem dX3_otherClause_192 : decode cX3_otherClause 192 = .ok (.ireturn, 1) := by decide +kernel
set_option maxRecDepth 100000 in
theorem t_Lw_otherClause_J184 (hC : CX z ad x cX3_otherClause RX3 7 (some .int)) (hR : x.2.2.1 = rmk 2 0 0) (k_17 : XS → Int32 → Int32 → Int32 → Option (Int32 × XS)) (hk_17 : ∀ (τ : XS) (a1 : Int32) (a2 : Int32) (a3 : Int32), AT z x 7 (wX z σ) rI (eqA ad) 0 0 0 0 ad 17 [(0, .ref 57), (1, .int a1), (2, .int a2), (3, .int a3)] [] τ (k_17 τ a1 a2 a3)) (τ : XS) (a1 : Int32) (a2 : Int32) (a3 : Int32) : AT z x 7 (wX z σ) rI (eqA ad) 0 0 0 0 ad 184 [(0, .ref 57), (1, .int a1), (2, .int a2), (3, .int a3)] [] τ (Lw_otherClause_J184 k_17 τ a1 a2 a3) := by
  unfold Lw_otherClause_J184
  refine at_iinc (j := 3) (v := a3 + (-1)) (lv' := [(3, .int (a3 + (-1))), (0, .ref 57), (1, .int a1), (2, .int a2)]) hC dX3_otherClause_184 rfl rfl (by decide) rfl ?_
  refine at_goto (tgt := 17) hC dX3_otherClause_187 rfl ?_
  refine at_drop (lv' := [(0, .ref 57), (1, .int a1), (2, .int a2), (3, .int (a3 + (-1)))]) [1, 2, 3, 0] rfl ?_
  exact hk_17 τ a1 a2 (a3 + (-1))
set_option maxRecDepth 100000 in
theorem t_Lw_otherClause_J178 (hC : CX z ad x cX3_otherClause RX3 7 (some .int)) (hR : x.2.2.1 = rmk 2 0 0) (k_17 : XS → Int32 → Int32 → Int32 → Option (Int32 × XS)) (hk_17 : ∀ (τ : XS) (a1 : Int32) (a2 : Int32) (a3 : Int32), AT z x 7 (wX z σ) rI (eqA ad) 0 0 0 0 ad 17 [(0, .ref 57), (1, .int a1), (2, .int a2), (3, .int a3)] [] τ (k_17 τ a1 a2 a3)) (k_63 : XS → Int32 → Int32 → Int32 → Option Nat → Int32 → Option (Int32 × XS)) (hk_63 : ∀ (τ : XS) (a1 : Int32) (a2 : Int32) (a3 : Int32) (a4 : Option Nat) (a5 : Int32), AT z x 7 (wX z σ) rI (eqA ad) 0 0 0 0 ad 63 [(0, .ref 57), (1, .int a1), (2, .int a2), (3, .int a3), (4, vr a4), (5, .int a5)] [] τ (k_63 τ a1 a2 a3 a4 a5)) (τ : XS) (a1 : Int32) (a2 : Int32) (a3 : Int32) (a4 : Option Nat) (a5 : Int32) : AT z x 7 (wX z σ) rI (eqA ad) 0 0 0 0 ad 178 [(0, .ref 57), (1, .int a1), (2, .int a2), (3, .int a3), (4, vr a4), (5, .int a5)] [] τ (Lw_otherClause_J178 k_17 k_63 τ a1 a2 a3 a4 a5) := by
  unfold Lw_otherClause_J178
  refine at_iinc (j := 5) (v := a5 + (-1)) (lv' := [(5, .int (a5 + (-1))), (0, .ref 57), (1, .int a1), (2, .int a2), (3, .int a3), (4, vr a4)]) hC dX3_otherClause_178 rfl rfl (by decide) (by cases a4 <;> rfl) ?_
  refine at_goto (tgt := 63) hC dX3_otherClause_181 rfl ?_
  refine at_drop (lv' := [(0, .ref 57), (1, .int a1), (2, .int a2), (3, .int a3), (4, vr a4), (5, .int (a5 + (-1)))]) [1, 2, 3, 4, 5, 0] rfl ?_
  exact hk_63 τ a1 a2 a3 a4 (a5 + (-1))
set_option maxRecDepth 100000 in
theorem t_Lw_otherClause_L63 (hC : CX z ad x cX3_otherClause RX3 7 (some .int)) (hR : x.2.2.1 = rmk 2 0 0) (k_17 : XS → Int32 → Int32 → Int32 → Option (Int32 × XS)) (hk_17 : ∀ (τ : XS) (a1 : Int32) (a2 : Int32) (a3 : Int32), AT z x 7 (wX z σ) rI (eqA ad) 0 0 0 0 ad 17 [(0, .ref 57), (1, .int a1), (2, .int a2), (3, .int a3)] [] τ (k_17 τ a1 a2 a3)) (n : Nat) (τ : XS) (a1 : Int32) (a2 : Int32) (a3 : Int32) (a4 : Option Nat) (a5 : Int32) : AT z x 7 (wX z σ) rI (eqA ad) 0 0 0 0 ad 63 [(0, .ref 57), (1, .int a1), (2, .int a2), (3, .int a3), (4, vr a4), (5, .int a5)] [] τ (Lw_otherClause_L63 k_17 n τ a1 a2 a3 a4 a5) := by
  revert τ a1 a2 a3 a4 a5
  show ∀ (τ : XS) (a1 : Int32) (a2 : Int32) (a3 : Int32) (a4 : Option Nat) (a5 : Int32), AT z x 7 (wX z σ) rI (eqA ad) 0 0 0 0 ad 63 [(0, .ref 57), (1, .int a1), (2, .int a2), (3, .int a3), (4, vr a4), (5, .int a5)] [] τ (Lw_otherClause_L63_r k_17 n τ a1 a2 a3 a4 a5)
  induction n with
  | zero => intro τ a1 a2 a3 a4 a5; exact at_none
  | succ n hk_63 =>
    intro τ a1 a2 a3 a4 a5
    unfold Lw_otherClause_L63_r
    refine at_iload (j := 5) hC rfl dX3_otherClause_63 ?_
    refine at_if_lt (tgt := 184) hC dX3_otherClause_65 rfl (fun _ => ?_) (fun _ => ?_)
    · refine at_drop (lv' := [(0, .ref 57), (1, .int a1), (2, .int a2), (3, .int a3)]) [0, 1, 2, 3] rfl ?_
      exact t_Lw_otherClause_J184 hC hR k_17 hk_17 τ a1 a2 a3
    · refine at_aloadV (j := 4) hC rfl dX3_otherClause_68 ?_
      refine at_oA (pre := []) rfl (fun a_3 _ hg3 => ?_)
      refine at_get (v := .ref (80 + 7 * a_3 + 1)) (C := RX0) (T := TX0) (N := 10) (ci := 0) (j := 3) hC (80 + 7 * a_3) dX3_otherClause_70 inX0 (cla hg3) rfl (by decide) lf_X3_89 rfl rfl ?_
      refine at_iload (j := 5) hC rfl dX3_otherClause_73 ?_
      refine at_iald hC (80 + 7 * a_3 + 1) dX3_otherClause_75 (cla_1 hg3) (fun v3 => ?_)
      refine at_iload_n (j := 1) hC rfl rfl dX3_otherClause_76 ?_
      refine at_icmp_ne (tgt := 178) hC dX3_otherClause_77 rfl (fun _ => ?_) (fun _ => ?_)
      · exact t_Lw_otherClause_J178 hC hR k_17 hk_17 (Lw_otherClause_L63_r k_17 n) hk_63 τ a1 a2 a3 a4 a5
      · refine at_aloadV (j := 4) hC rfl dX3_otherClause_80 ?_
        refine at_oA (pre := []) rfl (fun a_4 _ hg4 => ?_)
        refine at_get (v := .ref (80 + 7 * a_4 + 5)) (C := RX0) (T := TX0) (N := 10) (ci := 0) (j := 7) hC (80 + 7 * a_4) dX3_otherClause_82 inX0 (cla hg4) rfl (by decide) lf_X3_92 rfl rfl ?_
        refine at_iload (j := 5) hC rfl dX3_otherClause_85 ?_
        refine at_iald hC (80 + 7 * a_4 + 5) dX3_otherClause_87 (cla_5 hg4) (fun v4 => ?_)
        refine at_iload_n (j := 2) hC rfl rfl dX3_otherClause_88 ?_
        refine at_icmp_gt (tgt := 95) hC dX3_otherClause_89 rfl (fun _ => ?_) (fun _ => ?_)
        · refine at_aload_n (j := 0) hC rfl rfl dX3_otherClause_95 ?_
          refine at_aloadV (j := 4) hC rfl dX3_otherClause_96 ?_
          refine at_oA (pre := []) rfl (fun a_5 _ hg5 => ?_)
          refine at_get (v := .ref (80 + 7 * a_5 + 6)) (C := RX0) (T := TX0) (N := 10) (ci := 0) (j := 8) hC (80 + 7 * a_5) dX3_otherClause_98 inX0 (cla hg5) rfl (by decide) lf_X3_95 rfl rfl ?_
          refine at_aloadV (j := 4) hC rfl dX3_otherClause_101 ?_
          refine at_oA (pre := []) rfl (fun a_6 _ hg6 => ?_)
          refine at_get (v := .ref (80 + 7 * a_6 + 3)) (C := RX0) (T := TX0) (N := 10) (ci := 0) (j := 5) hC (80 + 7 * a_6) dX3_otherClause_103 inX0 (cla hg6) rfl (by decide) lf_X3_98 rfl rfl ?_
          refine at_iload (j := 5) hC rfl dX3_otherClause_106 ?_
          refine at_iald hC (80 + 7 * a_6 + 3) dX3_otherClause_108 (cla_3 hg6) (fun v5 => ?_)
          refine at_aloadV (j := 4) hC rfl dX3_otherClause_109 ?_
          refine at_oA (pre := []) rfl (fun a_7 _ hg7 => ?_)
          refine at_get (v := .ref (80 + 7 * a_7 + 4)) (C := RX0) (T := TX0) (N := 10) (ci := 0) (j := 6) hC (80 + 7 * a_7) dX3_otherClause_111 inX0 (cla hg7) rfl (by decide) lf_X3_101 rfl rfl ?_
          refine at_iload (j := 5) hC rfl dX3_otherClause_114 ?_
          refine at_iald hC (80 + 7 * a_7 + 4) dX3_otherClause_116 (cla_4 hg7) (fun v6 => ?_)
          refine at_callVI hC hR lk_X3_104 (c_Lw_reckon τ a_5 v5 v6) dX3_otherClause_117 recX3 rfl rfl ⟨by decide, by decide⟩ (Nat.le_of_ble_eq_true rfl) ⟨Nat.le_refl 0, Nat.le_refl 0⟩ (fun r7 r7s _ => ?_)
          refine at_if_ne (tgt := 126) hC dX3_otherClause_120 rfl (fun _ => ?_) (fun _ => ?_)
          · refine at_aload_n (j := 0) hC rfl rfl dX3_otherClause_126 ?_
            refine at_aloadV (j := 4) hC rfl dX3_otherClause_127 ?_
            refine at_oA (pre := []) rfl (fun a_8 _ hg8 => ?_)
            refine at_get (v := .ref (80 + 7 * a_8 + 6)) (C := RX0) (T := TX0) (N := 10) (ci := 0) (j := 8) hC (80 + 7 * a_8) dX3_otherClause_129 inX0 (cla hg8) rfl (by decide) lf_X3_95 rfl rfl ?_
            refine at_aloadV (j := 4) hC rfl dX3_otherClause_132 ?_
            refine at_oA (pre := []) rfl (fun a_9 _ hg9 => ?_)
            refine at_get (v := .ref (80 + 7 * a_9 + 2)) (C := RX0) (T := TX0) (N := 10) (ci := 0) (j := 4) hC (80 + 7 * a_9) dX3_otherClause_134 inX0 (cla hg9) rfl (by decide) lf_X3_114 rfl rfl ?_
            refine at_iload (j := 5) hC rfl dX3_otherClause_137 ?_
            refine at_iald hC (80 + 7 * a_9 + 2) dX3_otherClause_139 (cla_2 hg9) (fun v8 => ?_)
            refine at_aloadV (j := 4) hC rfl dX3_otherClause_140 ?_
            refine at_oA (pre := []) rfl (fun a_10 _ hg10 => ?_)
            refine at_get (v := .ref (80 + 7 * a_10 + 3)) (C := RX0) (T := TX0) (N := 10) (ci := 0) (j := 5) hC (80 + 7 * a_10) dX3_otherClause_142 inX0 (cla hg10) rfl (by decide) lf_X3_98 rfl rfl ?_
            refine at_iload (j := 5) hC rfl dX3_otherClause_145 ?_
            refine at_iald hC (80 + 7 * a_10 + 3) dX3_otherClause_147 (cla_3 hg10) (fun v9 => ?_)
            refine at_callVI hC hR lk_X3_104 (c_Lw_reckon r7s a_8 v8 v9) dX3_otherClause_148 recX3 rfl rfl ⟨by decide, by decide⟩ (Nat.le_of_ble_eq_true rfl) ⟨Nat.le_refl 0, Nat.le_refl 0⟩ (fun r10 r10s _ => ?_)
            refine at_callSpI hC hR lk_X3_117 (c_Lw_bounded r10s r10) dX3_otherClause_151 rfl rfl ⟨by decide, by decide⟩ (Nat.le_of_ble_eq_true rfl) ⟨Nat.le_refl 0, Nat.le_refl 0⟩ (fun r11 _ => ?_)
            refine at_istore (lv' := [(6, .int r11), (0, .ref 57), (1, .int a1), (2, .int a2), (3, .int a3), (4, vr a4), (5, .int a5)]) hC dX3_otherClause_154 (by decide) rfl ?_
            refine at_iload (j := 0) hC rfl dX3_otherClause_156 ?_
            refine at_aload_n (j := 1) hC rfl rfl dX3_otherClause_158 ?_
            refine gf_X3_120 hC dX3_otherClause_159 ?_
            refine at_icmp_eq (tgt := 178) hC dX3_otherClause_162 rfl (fun _ => ?_) (fun _ => ?_)
            · refine at_drop (lv' := [(0, .ref 57), (1, .int a1), (2, .int a2), (3, .int a3), (4, vr a4), (5, .int a5)]) [1, 2, 3, 4, 5, 6] rfl ?_
              exact t_Lw_otherClause_J178 hC hR k_17 hk_17 (Lw_otherClause_L63_r k_17 n) hk_63 r10s a1 a2 a3 a4 a5
            · refine at_bipush hC bi_100 dX3_otherClause_165 ?_
              refine at_aload_n (j := 1) hC rfl rfl dX3_otherClause_167 ?_
              refine gf_X3_17 hC dX3_otherClause_168 ?_
              refine at_iload_n (j := 4) hC rfl rfl dX3_otherClause_171 ?_
              refine at_iald hC 59 dX3_otherClause_172 cl_59 (fun v12 => ?_)
              refine at_imul hC dX3_otherClause_173 ?_
              refine at_iload (j := 6) hC rfl dX3_otherClause_174 ?_
              refine at_iadd hC dX3_otherClause_176 ?_
              exact at_iret (F := eqA ad) (ra := rI) hC dX3_otherClause_177 rfl (Nat.le_refl 0) (Nat.le_refl 0) rfl
          · refine at_goto (tgt := 178) hC dX3_otherClause_123 rfl ?_
            exact t_Lw_otherClause_J178 hC hR k_17 hk_17 (Lw_otherClause_L63_r k_17 n) hk_63 r7s a1 a2 a3 a4 a5
        · refine at_goto (tgt := 178) hC dX3_otherClause_92 rfl ?_
          exact t_Lw_otherClause_J178 hC hR k_17 hk_17 (Lw_otherClause_L63_r k_17 n) hk_63 τ a1 a2 a3 a4 a5
set_option maxRecDepth 100000 in
theorem t_Lw_otherClause_L17 (hC : CX z ad x cX3_otherClause RX3 7 (some .int)) (hR : x.2.2.1 = rmk 2 0 0) (n : Nat) (τ : XS) (a1 : Int32) (a2 : Int32) (a3 : Int32) : AT z x 7 (wX z σ) rI (eqA ad) 0 0 0 0 ad 17 [(0, .ref 57), (1, .int a1), (2, .int a2), (3, .int a3)] [] τ (Lw_otherClause_L17 n τ a1 a2 a3) := by
  revert τ a1 a2 a3
  show ∀ (τ : XS) (a1 : Int32) (a2 : Int32) (a3 : Int32), AT z x 7 (wX z σ) rI (eqA ad) 0 0 0 0 ad 17 [(0, .ref 57), (1, .int a1), (2, .int a2), (3, .int a3)] [] τ (Lw_otherClause_L17_r n τ a1 a2 a3)
  induction n with
  | zero => intro τ a1 a2 a3; exact at_none
  | succ n hk_17 =>
    intro τ a1 a2 a3
    unfold Lw_otherClause_L17_r
    refine at_iload_n (j := 3) hC rfl rfl dX3_otherClause_17 ?_
    refine at_if_lt (tgt := 190) hC dX3_otherClause_18 rfl (fun _ => ?_) (fun _ => ?_)
    · refine at_bipush hC bi_m5 dX3_otherClause_190 ?_
      exact at_iret (F := eqA ad) (ra := rI) hC dX3_otherClause_192 rfl (Nat.le_refl 0) (Nat.le_refl 0) rfl
    · refine at_aload_n (j := 0) hC rfl rfl dX3_otherClause_21 ?_
      refine gf_X3_11 hC dX3_otherClause_22 ?_
      refine at_aload_n (j := 0) hC rfl rfl dX3_otherClause_25 ?_
      refine gf_X3_17 hC dX3_otherClause_26 ?_
      refine at_iload_n (j := 3) hC rfl rfl dX3_otherClause_29 ?_
      refine at_iald hC 59 dX3_otherClause_30 cl_59 (fun v1 => ?_)
      refine at_aldq hC 58 dX3_otherClause_31 cl_58 (fun v2 => ?_)
      refine at_astoreV (lv' := [(4, vr v2), (0, .ref 57), (1, .int a1), (2, .int a2), (3, .int a3)]) hC dX3_otherClause_32 (by decide) rfl ?_
      refine at_aloadV (j := 0) hC rfl dX3_otherClause_34 ?_
      refine at_ifnull (tgt := 184) hC dX3_otherClause_36 rfl ?_ ?_
      · refine at_drop (lv' := [(0, .ref 57), (1, .int a1), (2, .int a2), (3, .int a3)]) [1, 2, 3, 4] rfl ?_
        exact t_Lw_otherClause_J184 hC hR (Lw_otherClause_L17_r n) hk_17 τ a1 a2 a3
      · refine at_aloadV (j := 0) hC rfl dX3_otherClause_39 ?_
        refine at_oA (pre := []) rfl (fun a_1 _ hg1 => ?_)
        refine at_get (v := .int (tF τ a_1 0)) (C := RX0) (T := TX0) (N := 10) (ci := 0) (j := 0) hC (80 + 7 * a_1) dX3_otherClause_41 inX0 (cla hg1) rfl (by decide) lf_X3_44 rfl rfl ?_
        refine at_aload_n (j := 1) hC rfl rfl dX3_otherClause_44 ?_
        refine gf_X3_111 hC dX3_otherClause_45 ?_
        refine at_icmp_eq (tgt := 54) hC dX3_otherClause_48 rfl (fun _ => ?_) (fun _ => ?_)
        · refine at_aloadV (j := 0) hC rfl dX3_otherClause_54 ?_
          refine at_oA (pre := []) rfl (fun a_2 _ hg2 => ?_)
          refine at_get (v := .int (tF τ a_2 2)) (C := RX0) (T := TX0) (N := 10) (ci := 0) (j := 2) hC (80 + 7 * a_2) dX3_otherClause_56 inX0 (cla hg2) rfl (by decide) lf_X3_86 rfl rfl ?_
          refine at_iconst hC ic_1 dX3_otherClause_59 ?_
          refine at_isub hC dX3_otherClause_60 ?_
          refine at_istore (lv' := [(5, .int ((tF τ a_2 2) - 1)), (4, vr v2), (0, .ref 57), (1, .int a1), (2, .int a2), (3, .int a3)]) hC dX3_otherClause_61 (by decide) (by cases v2 <;> rfl) ?_
          refine at_drop (lv' := [(0, .ref 57), (1, .int a1), (2, .int a2), (3, .int a3), (4, vr v2), (5, .int ((tF τ a_2 2) - 1))]) [2, 3, 4, 5, 1, 0] rfl ?_
          exact t_Lw_otherClause_L63 hC hR (Lw_otherClause_L17_r n) hk_17 100000 τ a1 a2 a3 v2 ((tF τ a_2 2) - 1)
        · refine at_goto (tgt := 184) hC dX3_otherClause_51 rfl ?_
          refine at_drop (lv' := [(0, .ref 57), (1, .int a1), (2, .int a2), (3, .int a3)]) [1, 2, 3, 4] rfl ?_
          exact t_Lw_otherClause_J184 hC hR (Lw_otherClause_L17_r n) hk_17 τ a1 a2 a3
set_option maxRecDepth 100000 in
theorem c_Lw_otherClause (τ : XS) (p0 : Int32) (p1 : Int32) : Ct z (wX z σ) rI eqA yX3_otherClause cX3_otherClause 7 (some .int) 2 0 0 [.ref 57, .int p0, .int p1] τ (Lw_otherClause τ p0 p1) := by
  refine Ct.of (by decide) (Nat.le_of_ble_eq_true rfl) (fun ad x hC hR _ => ?_)
  show AT z x 7 (wX z σ) rI (eqA ad) 0 0 0 0 ad 0 [(0, .ref 57), (1, .int p0), (2, .int p1)] [] τ (Lw_otherClause τ p0 p1)
  unfold Lw_otherClause
  refine at_aload_n (j := 0) hC rfl rfl dX3_otherClause_0 ?_
  refine gf_X3_108 hC dX3_otherClause_1 ?_
  refine at_if_ge (tgt := 10) hC dX3_otherClause_4 rfl (fun _ => ?_) (fun _ => ?_)
  · refine at_aload_n (j := 0) hC rfl rfl dX3_otherClause_10 ?_
    refine gf_X3_36 hC dX3_otherClause_11 ?_
    refine at_iconst hC ic_1 dX3_otherClause_14 ?_
    refine at_isub hC dX3_otherClause_15 ?_
    refine at_istore_n (lv' := [(3, .int ((τ.1 302) - 1)), (0, .ref 57), (1, .int p0), (2, .int p1)]) hC rfl dX3_otherClause_16 (by decide) rfl ?_
    refine at_drop (lv' := [(0, .ref 57), (1, .int p0), (2, .int p1), (3, .int ((τ.1 302) - 1))]) [1, 2, 3, 0] rfl ?_
    exact t_Lw_otherClause_L17 hC hR 100000 τ p0 p1 ((τ.1 302) - 1)
  · refine at_bipush hC bi_m5 dX3_otherClause_7 ?_
    exact at_iret (F := eqA ad) (ra := rI) hC dX3_otherClause_9 rfl (Nat.le_refl 0) (Nat.le_refl 0) rfl
end G
