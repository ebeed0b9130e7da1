section G
variable {z : ZZ} {x : XX} {ad : Nat → Nat} {σ : MS}
theorem dX10_part_0 : decode cX10_part 0 = .ok (.aload_n 0, 1) := by decide +kernel
theorem dX10_part_1 : decode cX10_part 1 = .ok (.getfield 14, 3) := by decide +kernel
theorem dX10_part_4 : decode cX10_part 4 = .ok (.iload_n 1, 1) := by decide +kernel
theorem dX10_part_5 : decode cX10_part 5 = .ok (.invokevirtual 107, 3) := by decide +kernel
theorem dX10_part_8 : decode cX10_part 8 = .ok (.ifCond .eq 27, 3) := by decide +kernel
theorem dX10_part_11 : decode cX10_part 11 = .ok (.iload_n 2, 1) := by decide +kernel
theorem dX10_part_12 : decode cX10_part 12 = .ok (.ifCond .lt 23, 3) := by decide +kernel
theorem dX10_part_15 : decode cX10_part 15 = .ok (.iload_n 2, 1) := by decide +kernel
theorem dX10_part_16 : decode cX10_part 16 = .ok (.getstatic 196, 3) := by decide +kernel
theorem dX10_part_19 : decode cX10_part 19 = .ok (.arraylength, 1) := by decide +kernel
theorem dX10_part_20 : decode cX10_part 20 = .ok (.if_icmp .ge 15, 3) := by decide +kernel
theorem dX10_part_23 : decode cX10_part 23 = .ok (.aload_n 0, 1) := by decide +kernel
theorem dX10_part_24 : decode cX10_part 24 = .ok (.getfield 14, 3) := by decide +kernel
theorem dX10_part_27 : decode cX10_part 27 = .ok (.iload 4, 2) := by decide +kernel
theorem dX10_part_29 : decode cX10_part 29 = .ok (.invokevirtual 171, 3) := by decide +kernel
theorem dX10_part_32 : decode cX10_part 32 = .ok (.ifCond .ne 5, 3) := by decide +kernel
theorem dX10_part_35 : decode cX10_part 35 = .ok (.iconst (-1), 1) := by decide +kernel
theorem dX10_part_36 : decode cX10_part 36 = .ok (.ireturn, 1) := by decide +kernel
theorem dX10_part_37 : decode cX10_part 37 = .ok (.iload_n 3, 1) := by decide +kernel
theorem dX10_part_38 : decode cX10_part 38 = .ok (.invokestatic 93, 3) := by decide +kernel
theorem dX10_part_41 : decode cX10_part 41 = .ok (.ifCond .ne 6, 3) := by decide +kernel
theorem dX10_part_44 : decode cX10_part 44 = .ok (.bipush (-2), 2) := by decide +kernel
theorem dX10_part_46 : decode cX10_part 46 = .ok (.ireturn, 1) := by decide +kernel
theorem dX10_part_47 : decode cX10_part 47 = .ok (.aload_n 0, 1) := by decide +kernel
theorem dX10_part_48 : decode cX10_part 48 = .ok (.getfield 67, 3) := by decide +kernel
theorem dX10_part_51 : decode cX10_part 51 = .ok (.iload 4, 2) := by decide +kernel
theorem dX10_part_53 : decode cX10_part 53 = .ok (.invokevirtual 174, 3) := by decide +kernel
theorem dX10_part_56 : decode cX10_part 56 = .ok (.aload_n 0, 1) := by decide +kernel
theorem dX10_part_57 : decode cX10_part 57 = .ok (.getfield 67, 3) := by decide +kernel
theorem dX10_part_60 : decode cX10_part 60 = .ok (.iload_n 1, 1) := by decide +kernel
theorem dX10_part_61 : decode cX10_part 61 = .ok (.iload_n 3, 1) := by decide +kernel
theorem dX10_part_62 : decode cX10_part 62 = .ok (.invokevirtual 177, 3) := by decide +kernel
theorem dX10_part_65 : decode cX10_part 65 = .ok (.istore 5, 2) := by decide +kernel
theorem dX10_part_67 : decode cX10_part 67 = .ok (.iload 5, 2) := by decide +kernel
theorem dX10_part_69 : decode cX10_part 69 = .ok (.ifCond .ge 6, 3) := by decide +kernel
theorem dX10_part_72 : decode cX10_part 72 = .ok (.bipush (-5), 2) := by decide +kernel
theorem dX10_part_74 : decode cX10_part 74 = .ok (.ireturn, 1) := by decide +kernel
theorem dX10_part_75 : decode cX10_part 75 = .ok (.iconst 0, 1) := by decide +kernel
theorem dX10_part_76 : decode cX10_part 76 = .ok (.istore 6, 2) := by decide +kernel
theorem dX10_part_78 : decode cX10_part 78 = .ok (.iload 6, 2) := by decide +kernel
theorem dX10_part_80 : decode cX10_part 80 = .ok (.getstatic 196, 3) := by decide +kernel
theorem dX10_part_83 : decode cX10_part 83 = .ok (.arraylength, 1) := by decide +kernel
theorem dX10_part_84 : decode cX10_part 84 = .ok (.if_icmp .ge 28, 3) := by decide +kernel
theorem dX10_part_87 : decode cX10_part 87 = .ok (.iload 5, 2) := by decide +kernel
theorem dX10_part_89 : decode cX10_part 89 = .ok (.ifCond .lt 23, 3) := by decide +kernel
theorem dX10_part_92 : decode cX10_part 92 = .ok (.iload 5, 2) := by decide +kernel
theorem dX10_part_94 : decode cX10_part 94 = .ok (.iload_n 2, 1) := by decide +kernel
theorem dX10_part_95 : decode cX10_part 95 = .ok (.if_icmp .eq 17, 3) := by decide +kernel
theorem dX10_part_98 : decode cX10_part 98 = .ok (.getstatic 196, 3) := by decide +kernel
theorem dX10_part_101 : decode cX10_part 101 = .ok (.iload 5, 2) := by decide +kernel
theorem dX10_part_103 : decode cX10_part 103 = .ok (.iaload, 1) := by decide +kernel
theorem dX10_part_104 : decode cX10_part 104 = .ok (.istore 5, 2) := by decide +kernel
theorem dX10_part_106 : decode cX10_part 106 = .ok (.iinc 6 1, 3) := by decide +kernel
theorem dX10_part_109 : decode cX10_part 109 = .ok (.goto (-31), 3) := by decide +kernel
theorem dX10_part_112 : decode cX10_part 112 = .ok (.iload 5, 2) := by decide +kernel
theorem dX10_part_114 : decode cX10_part 114 = .ok (.iload_n 2, 1) := by decide +kernel
theorem dX10_part_115 : decode cX10_part 115 = .ok (.if_icmp .ne 15, 3) := by decide +kernel
theorem dX10_part_118 : decode cX10_part 118 = .ok (.aload_n 0, 1) := by decide +kernel
theorem dX10_part_119 : decode cX10_part 119 = .ok (.getfield 14, 3) := by decide +kernel
theorem dX10_part_122 : decode cX10_part 122 = .ok (.iload_n 1, 1) := by decide +kernel
theorem dX10_part_123 : decode cX10_part 123 = .ok (.iload_n 3, 1) := by decide +kernel
theorem dX10_part_124 : decode cX10_part 124 = .ok (.invokevirtual 190, 3) := by decide +kernel
theorem dX10_part_127 : decode cX10_part 127 = .ok (.goto 5, 3) := by decide +kernel
theorem dX10_part_130 : decode cX10_part 130 = .ok (.bipush (-6), 2) := by decide +kernel
theorem dX10_part_132 : decode cX10_part 132 = .ok (.ireturn, 1) := by decide +kernel
set_option maxRecDepth 100000 in
theorem t_W_part_J112 (hC : CX z ad x cX10_part RX10 7 (some .int)) (hR : x.2.2.1 = rmk 10 0 0) (τ : XS) (a1 : Int32) (a2 : Int32) (a3 : Int32) (a5 : Int32) : AT z x 7 (wX z σ) rI (eqA ad) 0 0 0 0 ad 112 [(0, .ref 36), (1, .int a1), (2, .int a2), (3, .int a3), (5, .int a5)] [] τ (W_part_J112 τ a1 a2 a3 a5) := by
  unfold W_part_J112
  refine at_iload (j := 4) hC rfl dX10_part_112 ?_
  refine at_iload_n (j := 2) hC rfl rfl dX10_part_114 ?_
  refine at_icmp_ne (tgt := 130) hC dX10_part_115 rfl (fun _ => ?_) (fun _ => ?_)
  · refine at_bipush hC bi_m6 dX10_part_130 ?_
    exact at_iret (F := eqA ad) (ra := rI) hC dX10_part_132 rfl (Nat.le_refl 0) (Nat.le_refl 0) rfl
  · refine at_aload_n (j := 0) hC rfl rfl dX10_part_118 ?_
    refine gf_X10_14 hC dX10_part_119 ?_
    refine at_iload_n (j := 1) hC rfl rfl dX10_part_122 ?_
    refine at_iload_n (j := 3) hC rfl rfl dX10_part_123 ?_
    refine at_callVpI hC hR lk_X10_190 (c_Bk_ageOn τ a1 a3) dX10_part_124 recX1 rfl rfl ⟨by decide, by decide⟩ (Nat.le_of_ble_eq_true rfl) ⟨Nat.le_refl 0, Nat.le_refl 0⟩ (fun r6 _ => ?_)
    refine at_goto (tgt := 132) hC dX10_part_127 rfl ?_
    exact at_iret (F := eqA ad) (ra := rI) hC dX10_part_132 rfl (Nat.le_refl 0) (Nat.le_refl 0) rfl
set_option maxRecDepth 100000 in
theorem t_W_part_L78 (hC : CX z ad x cX10_part RX10 7 (some .int)) (hR : x.2.2.1 = rmk 10 0 0) (n : Nat) (τ : XS) (a1 : Int32) (a2 : Int32) (a3 : Int32) (a5 : Int32) (a6 : Int32) : AT z x 7 (wX z σ) rI (eqA ad) 0 0 0 0 ad 78 [(0, .ref 36), (1, .int a1), (2, .int a2), (3, .int a3), (5, .int a5), (6, .int a6)] [] τ (W_part_L78 n τ a1 a2 a3 a5 a6) := by
  revert τ a1 a2 a3 a5 a6
  show ∀ (τ : XS) (a1 : Int32) (a2 : Int32) (a3 : Int32) (a5 : Int32) (a6 : Int32), AT z x 7 (wX z σ) rI (eqA ad) 0 0 0 0 ad 78 [(0, .ref 36), (1, .int a1), (2, .int a2), (3, .int a3), (5, .int a5), (6, .int a6)] [] τ (W_part_L78_r n τ a1 a2 a3 a5 a6)
  induction n with
  | zero => intro τ a1 a2 a3 a5 a6; exact at_none
  | succ n hk_78 =>
    intro τ a1 a2 a3 a5 a6
    unfold W_part_L78_r
    refine at_iload (j := 5) hC rfl dX10_part_78 ?_
    refine at_getK hC lfk_X10_196 dX10_part_80 ?_
    refine at_lenK hC dX10_part_83 ?_
    refine at_icmp_ge (tgt := 112) hC dX10_part_84 rfl (fun _ => ?_) (fun _ => ?_)
    · refine at_drop (lv' := [(0, .ref 36), (1, .int a1), (2, .int a2), (3, .int a3), (5, .int a5)]) [0, 1, 2, 3, 4] rfl ?_
      exact t_W_part_J112 hC hR τ a1 a2 a3 a5
    · refine at_iload (j := 4) hC rfl dX10_part_87 ?_
      refine at_if_lt (tgt := 112) hC dX10_part_89 rfl (fun _ => ?_) (fun _ => ?_)
      · refine at_drop (lv' := [(0, .ref 36), (1, .int a1), (2, .int a2), (3, .int a3), (5, .int a5)]) [0, 1, 2, 3, 4] rfl ?_
        exact t_W_part_J112 hC hR τ a1 a2 a3 a5
      · refine at_iload (j := 4) hC rfl dX10_part_92 ?_
        refine at_iload_n (j := 2) hC rfl rfl dX10_part_94 ?_
        refine at_icmp_eq (tgt := 112) hC dX10_part_95 rfl (fun _ => ?_) (fun _ => ?_)
        · refine at_drop (lv' := [(0, .ref 36), (1, .int a1), (2, .int a2), (3, .int a3), (5, .int a5)]) [0, 1, 2, 3, 4] rfl ?_
          exact t_W_part_J112 hC hR τ a1 a2 a3 a5
        · refine at_getK hC lfk_X10_196 dX10_part_98 ?_
          refine at_iload (j := 4) hC rfl dX10_part_101 ?_
          refine at_ialdK hC dX10_part_103 (fun v7 => ?_)
          refine at_istore (lv' := [(5, .int v7), (0, .ref 36), (1, .int a1), (2, .int a2), (3, .int a3), (6, .int a6)]) hC dX10_part_104 (by decide) rfl ?_
          refine at_iinc (j := 5) (v := a6 + 1) (lv' := [(6, .int (a6 + 1)), (5, .int v7), (0, .ref 36), (1, .int a1), (2, .int a2), (3, .int a3)]) hC dX10_part_106 rfl rfl (by decide) rfl ?_
          refine at_goto (tgt := 78) hC dX10_part_109 rfl ?_
          refine at_drop (lv' := [(0, .ref 36), (1, .int a1), (2, .int a2), (3, .int a3), (5, .int v7), (6, .int (a6 + 1))]) [2, 3, 4, 5, 1, 0] rfl ?_
          exact hk_78 τ a1 a2 a3 v7 (a6 + 1)
set_option maxRecDepth 100000 in
theorem c_W_part (τ : XS) (p0 : Int32) (p1 : Int32) (p2 : Int32) (p3 : Int32) : Ct z (wX z σ) rI eqA yX10_part cX10_part 7 (some .int) 10 0 0 [.ref 36, .int p0, .int p1, .int p2, .int p3] τ (W_part τ p0 p1 p2 p3) := by
  refine Ct.of (by decide) (Nat.le_of_ble_eq_true rfl) (fun ad x hC hR _ => ?_)
  show AT z x 7 (wX z σ) rI (eqA ad) 0 0 0 0 ad 0 [(0, .ref 36), (1, .int p0), (2, .int p1), (3, .int p2), (4, .int p3)] [] τ (W_part τ p0 p1 p2 p3)
  unfold W_part
  refine at_aload_n (j := 0) hC rfl rfl dX10_part_0 ?_
  refine gf_X10_14 hC dX10_part_1 ?_
  refine at_iload_n (j := 1) hC rfl rfl dX10_part_4 ?_
  refine at_callVpI hC hR lk_X10_107 (c_Bk_isPerson τ p0) dX10_part_5 recX1 rfl rfl ⟨by decide, by decide⟩ (Nat.le_of_ble_eq_true rfl) ⟨Nat.le_refl 0, Nat.le_refl 0⟩ (fun r1 _ => ?_)
  refine at_if_eq (tgt := 35) hC dX10_part_8 rfl (fun _ => ?_) (fun _ => ?_)
  · refine at_iconst hC ic_m1 dX10_part_35 ?_
    exact at_iret (F := eqA ad) (ra := rI) hC dX10_part_36 rfl (Nat.le_refl 0) (Nat.le_refl 0) rfl
  · refine at_iload_n (j := 2) hC rfl rfl dX10_part_11 ?_
    refine at_if_lt (tgt := 35) hC dX10_part_12 rfl (fun _ => ?_) (fun _ => ?_)
    · refine at_iconst hC ic_m1 dX10_part_35 ?_
      exact at_iret (F := eqA ad) (ra := rI) hC dX10_part_36 rfl (Nat.le_refl 0) (Nat.le_refl 0) rfl
    · refine at_iload_n (j := 2) hC rfl rfl dX10_part_15 ?_
      refine at_getK hC lfk_X10_196 dX10_part_16 ?_
      refine at_lenK hC dX10_part_19 ?_
      refine at_icmp_ge (tgt := 35) hC dX10_part_20 rfl (fun _ => ?_) (fun _ => ?_)
      · refine at_iconst hC ic_m1 dX10_part_35 ?_
        exact at_iret (F := eqA ad) (ra := rI) hC dX10_part_36 rfl (Nat.le_refl 0) (Nat.le_refl 0) rfl
      · refine at_aload_n (j := 0) hC rfl rfl dX10_part_23 ?_
        refine gf_X10_14 hC dX10_part_24 ?_
        refine at_iload (j := 4) hC rfl dX10_part_27 ?_
        refine at_callVpI hC hR lk_X10_171 (c_Bk_isReach τ p3) dX10_part_29 recX1 rfl rfl ⟨by decide, by decide⟩ (Nat.le_of_ble_eq_true rfl) ⟨Nat.le_refl 0, Nat.le_refl 0⟩ (fun r2 _ => ?_)
        refine at_if_ne (tgt := 37) hC dX10_part_32 rfl (fun _ => ?_) (fun _ => ?_)
        · refine at_iload_n (j := 3) hC rfl rfl dX10_part_37 ?_
          refine at_callSpI hC hR lk_X10_93 (c_W_isDay τ p2) dX10_part_38 rfl rfl ⟨by decide, by decide⟩ (Nat.le_of_ble_eq_true rfl) ⟨Nat.le_refl 0, Nat.le_refl 0⟩ (fun r3 _ => ?_)
          refine at_if_ne (tgt := 47) hC dX10_part_41 rfl (fun _ => ?_) (fun _ => ?_)
          · refine at_aload_n (j := 0) hC rfl rfl dX10_part_47 ?_
            refine gf_X10_67 hC dX10_part_48 ?_
            refine at_iload (j := 4) hC rfl dX10_part_51 ?_
            refine at_callVU hC hR lk_X10_174 (c_Cn_look τ p3) dX10_part_53 recX2 rfl rfl ⟨by decide, by decide⟩ (Nat.le_of_ble_eq_true rfl) ⟨Nat.le_refl 0, Nat.le_refl 0⟩ (fun r4 r4s _ => ?_)
            refine at_aload_n (j := 0) hC rfl rfl dX10_part_56 ?_
            refine gf_X10_67 hC dX10_part_57 ?_
            refine at_iload_n (j := 1) hC rfl rfl dX10_part_60 ?_
            refine at_iload_n (j := 3) hC rfl rfl dX10_part_61 ?_
            refine at_callVI hC hR lk_X10_177 (c_Cn_kindOf r4s p0 p2) dX10_part_62 recX2 rfl rfl ⟨by decide, by decide⟩ (Nat.le_of_ble_eq_true rfl) ⟨Nat.le_refl 0, Nat.le_refl 0⟩ (fun r5 r5s _ => ?_)
            refine at_istore (lv' := [(5, .int r5), (0, .ref 36), (1, .int p0), (2, .int p1), (3, .int p2), (4, .int p3)]) hC dX10_part_65 (by decide) rfl ?_
            refine at_iload (j := 0) hC rfl dX10_part_67 ?_
            refine at_if_ge (tgt := 75) hC dX10_part_69 rfl (fun _ => ?_) (fun _ => ?_)
            · refine at_iconst hC ic_0 dX10_part_75 ?_
              refine at_istore (lv' := [(6, .int 0), (5, .int r5), (0, .ref 36), (1, .int p0), (2, .int p1), (3, .int p2), (4, .int p3)]) hC dX10_part_76 (by decide) rfl ?_
              refine at_drop (lv' := [(0, .ref 36), (1, .int p0), (2, .int p1), (3, .int p2), (5, .int r5), (6, .int 0)]) [2, 3, 4, 5, 1, 0] rfl ?_
              exact t_W_part_L78 hC hR 100000 r5s p0 p1 p2 r5 0
            · refine at_bipush hC bi_m5 dX10_part_72 ?_
              exact at_iret (F := eqA ad) (ra := rI) hC dX10_part_74 rfl (Nat.le_refl 0) (Nat.le_refl 0) rfl
          · refine at_bipush hC bi_m2 dX10_part_44 ?_
            exact at_iret (F := eqA ad) (ra := rI) hC dX10_part_46 rfl (Nat.le_refl 0) (Nat.le_refl 0) rfl
        · refine at_iconst hC ic_m1 dX10_part_35 ?_
          exact at_iret (F := eqA ad) (ra := rI) hC dX10_part_36 rfl (Nat.le_refl 0) (Nat.le_refl 0) rfl
theorem dX10_feed_0 : decode cX10_feed 0 = .ok (.iload_n 3, 1) := by decide +kernel
theorem dX10_feed_1 : decode cX10_feed 1 = .ok (.iconst 1, 1) := by decide +kernel
theorem dX10_feed_2 : decode cX10_feed 2 = .ok (.if_icmp .lt 9, 3) := by decide +kernel
theorem dX10_feed_5 : decode cX10_feed 5 = .ok (.iload_n 3, 1) := by decide +kernel
theorem dX10_feed_6 : decode cX10_feed 6 = .ok (.bipush 8, 2) := by decide +kernel
theorem dX10_feed_8 : decode cX10_feed 8 = .ok (.if_icmp .le 6, 3) := by decide +kernel
theorem dX10_feed_11 : decode cX10_feed 11 = .ok (.bipush (-2), 2) := by decide +kernel
theorem dX10_feed_13 : decode cX10_feed 13 = .ok (.ireturn, 1) := by decide +kernel
theorem dX10_feed_14 : decode cX10_feed 14 = .ok (.aload_n 0, 1) := by decide +kernel
theorem dX10_feed_15 : decode cX10_feed 15 = .ok (.getfield 30, 3) := by decide +kernel
theorem dX10_feed_18 : decode cX10_feed 18 = .ok (.getfield 199, 3) := by decide +kernel
theorem dX10_feed_21 : decode cX10_feed 21 = .ok (.iload_n 3, 1) := by decide +kernel
theorem dX10_feed_22 : decode cX10_feed 22 = .ok (.iadd, 1) := by decide +kernel
theorem dX10_feed_23 : decode cX10_feed 23 = .ok (.sipush 200, 3) := by decide +kernel
theorem dX10_feed_26 : decode cX10_feed 26 = .ok (.if_icmp .le 6, 3) := by decide +kernel
theorem dX10_feed_29 : decode cX10_feed 29 = .ok (.bipush (-4), 2) := by decide +kernel
theorem dX10_feed_31 : decode cX10_feed 31 = .ok (.ireturn, 1) := by decide +kernel
theorem dX10_feed_32 : decode cX10_feed 32 = .ok (.iload_n 3, 1) := by decide +kernel
theorem dX10_feed_33 : decode cX10_feed 33 = .ok (.iconst 1, 1) := by decide +kernel
theorem dX10_feed_34 : decode cX10_feed 34 = .ok (.isub, 1) := by decide +kernel
theorem dX10_feed_35 : decode cX10_feed 35 = .ok (.istore 4, 2) := by decide +kernel
theorem dX10_feed_37 : decode cX10_feed 37 = .ok (.iload 4, 2) := by decide +kernel
theorem dX10_feed_39 : decode cX10_feed 39 = .ok (.ifCond .lt 28, 3) := by decide +kernel
theorem dX10_feed_42 : decode cX10_feed 42 = .ok (.aload_n 0, 1) := by decide +kernel
theorem dX10_feed_43 : decode cX10_feed 43 = .ok (.getfield 30, 3) := by decide +kernel
theorem dX10_feed_46 : decode cX10_feed 46 = .ok (.lload_n 1, 1) := by decide +kernel
theorem dX10_feed_47 : decode cX10_feed 47 = .ok (.bipush 8, 2) := by decide +kernel
theorem dX10_feed_49 : decode cX10_feed 49 = .ok (.iload 4, 2) := by decide +kernel
theorem dX10_feed_51 : decode cX10_feed 51 = .ok (.imul, 1) := by decide +kernel
theorem dX10_feed_52 : decode cX10_feed 52 = .ok (.lushr, 1) := by decide +kernel
theorem dX10_feed_53 : decode cX10_feed 53 = .ok (.l2i, 1) := by decide +kernel
theorem dX10_feed_54 : decode cX10_feed 54 = .ok (.sipush 255, 3) := by decide +kernel
theorem dX10_feed_57 : decode cX10_feed 57 = .ok (.iand, 1) := by decide +kernel
theorem dX10_feed_58 : decode cX10_feed 58 = .ok (.invokevirtual 202, 3) := by decide +kernel
theorem dX10_feed_61 : decode cX10_feed 61 = .ok (.iinc 4 (-1), 3) := by decide +kernel
theorem dX10_feed_64 : decode cX10_feed 64 = .ok (.goto (-27), 3) := by decide +kernel
theorem dX10_feed_67 : decode cX10_feed 67 = .ok (.aload_n 0, 1) := by decide +kernel
theorem dX10_feed_68 : decode cX10_feed 68 = .ok (.getfield 30, 3) := by decide +kernel
theorem dX10_feed_71 : decode cX10_feed 71 = .ok (.getfield 199, 3) := by decide +kernel
theorem dX10_feed_74 : decode cX10_feed 74 = .ok (.ireturn, 1) := by decide +kernel
set_option maxRecDepth 100000 in
theorem t_W_feed_L37 (hC : CX z ad x cX10_feed RX10 5 (some .int)) (hR : x.2.2.1 = rmk 2 0 0) (n : Nat) (τ : XS) (a1 : Int64) (a4 : Int32) : AT z x 5 (wX z σ) rI (eqA ad) 0 0 0 0 ad 37 [(0, .ref 36), (1, .long a1), (4, .int a4)] [] τ (W_feed_L37 n τ a1 a4) := by
  revert τ a1 a4
  show ∀ (τ : XS) (a1 : Int64) (a4 : Int32), AT z x 5 (wX z σ) rI (eqA ad) 0 0 0 0 ad 37 [(0, .ref 36), (1, .long a1), (4, .int a4)] [] τ (W_feed_L37_r n τ a1 a4)
  induction n with
  | zero => intro τ a1 a4; exact at_none
  | succ n hk_37 =>
    intro τ a1 a4
    unfold W_feed_L37_r
    refine at_iload (j := 2) hC rfl dX10_feed_37 ?_
    refine at_if_lt (tgt := 67) hC dX10_feed_39 rfl (fun _ => ?_) (fun _ => ?_)
    · refine at_aload_n (j := 0) hC rfl rfl dX10_feed_67 ?_
      refine gf_X10_30 hC dX10_feed_68 ?_
      refine gf_X10_199 hC dX10_feed_71 ?_
      exact at_iret (F := eqA ad) (ra := rI) hC dX10_feed_74 rfl (Nat.le_refl 0) (Nat.le_refl 0) rfl
    · refine at_aload_n (j := 0) hC rfl rfl dX10_feed_42 ?_
      refine gf_X10_30 hC dX10_feed_43 ?_
      refine at_lload_n (j := 1) hC rfl rfl dX10_feed_46 ?_
      refine at_bipush hC bi_8 dX10_feed_47 ?_
      refine at_iload (j := 2) hC rfl dX10_feed_49 ?_
      refine at_imul hC dX10_feed_51 ?_
      refine at_lushr hC dX10_feed_52 ?_
      refine at_l2i hC dX10_feed_53 ?_
      refine at_sipush hC si_255 dX10_feed_54 ?_
      refine at_iand hC dX10_feed_57 ?_
      refine at_callVU hC hR lk_X10_202 (c_Tp_addByte τ ((((a1.toUInt64 >>> ((8 * a4).toInt64.toUInt64 &&& Int64.toUInt64 63)).toInt64).toInt32) &&& 255)) dX10_feed_58 recX7 rfl rfl ⟨by decide, by decide⟩ (Nat.le_of_ble_eq_true rfl) ⟨Nat.le_refl 0, Nat.le_refl 0⟩ (fun r1 r1s _ => ?_)
      refine at_iinc (j := 2) (v := a4 + (-1)) (lv' := [(4, .int (a4 + (-1))), (0, .ref 36), (1, .long a1)]) hC dX10_feed_61 rfl rfl (by decide) rfl ?_
      refine at_goto (tgt := 37) hC dX10_feed_64 rfl ?_
      refine at_drop (lv' := [(0, .ref 36), (1, .long a1), (4, .int (a4 + (-1)))]) [1, 2, 0] rfl ?_
      exact hk_37 r1s a1 (a4 + (-1))
set_option maxRecDepth 100000 in
theorem c_W_feed (τ : XS) (p0 : Int64) (p1 : Int32) : Ct z (wX z σ) rI eqA yX10_feed cX10_feed 5 (some .int) 2 0 0 [.ref 36, .long p0, .int p1] τ (W_feed τ p0 p1) := by
  refine Ct.of (by decide) (Nat.le_of_ble_eq_true rfl) (fun ad x hC hR _ => ?_)
  show AT z x 5 (wX z σ) rI (eqA ad) 0 0 0 0 ad 0 [(0, .ref 36), (1, .long p0), (3, .int p1)] [] τ (W_feed τ p0 p1)
  unfold W_feed
  refine at_iload_n (j := 2) hC rfl rfl dX10_feed_0 ?_
  refine at_iconst hC ic_1 dX10_feed_1 ?_
  refine at_icmp_lt (tgt := 11) hC dX10_feed_2 rfl (fun _ => ?_) (fun _ => ?_)
  · refine at_bipush hC bi_m2 dX10_feed_11 ?_
    exact at_iret (F := eqA ad) (ra := rI) hC dX10_feed_13 rfl (Nat.le_refl 0) (Nat.le_refl 0) rfl
  · refine at_iload_n (j := 2) hC rfl rfl dX10_feed_5 ?_
    refine at_bipush hC bi_8 dX10_feed_6 ?_
    refine at_icmp_le (tgt := 14) hC dX10_feed_8 rfl (fun _ => ?_) (fun _ => ?_)
    · refine at_aload_n (j := 0) hC rfl rfl dX10_feed_14 ?_
      refine gf_X10_30 hC dX10_feed_15 ?_
      refine gf_X10_199 hC dX10_feed_18 ?_
      refine at_iload_n (j := 2) hC rfl rfl dX10_feed_21 ?_
      refine at_iadd hC dX10_feed_22 ?_
      refine at_sipush hC si_200 dX10_feed_23 ?_
      refine at_icmp_le (tgt := 32) hC dX10_feed_26 rfl (fun _ => ?_) (fun _ => ?_)
      · refine at_iload_n (j := 2) hC rfl rfl dX10_feed_32 ?_
        refine at_iconst hC ic_1 dX10_feed_33 ?_
        refine at_isub hC dX10_feed_34 ?_
        refine at_istore (lv' := [(4, .int (p1 - 1)), (0, .ref 36), (1, .long p0), (3, .int p1)]) hC dX10_feed_35 (by decide) rfl ?_
        refine at_drop (lv' := [(0, .ref 36), (1, .long p0), (4, .int (p1 - 1))]) [1, 2, 0] rfl ?_
        exact t_W_feed_L37 hC hR 100000 τ p0 (p1 - 1)
      · refine at_bipush hC bi_m4 dX10_feed_29 ?_
        exact at_iret (F := eqA ad) (ra := rI) hC dX10_feed_31 rfl (Nat.le_refl 0) (Nat.le_refl 0) rfl
    · refine at_bipush hC bi_m2 dX10_feed_11 ?_
      exact at_iret (F := eqA ad) (ra := rI) hC dX10_feed_13 rfl (Nat.le_refl 0) (Nat.le_refl 0) rfl
theorem dX10_force_0 : decode cX10_force 0 = .ok (.aload_n 0, 1) := by decide +kernel
theorem dX10_force_1 : decode cX10_force 1 = .ok (.getfield 37, 3) := by decide +kernel
theorem dX10_force_4 : decode cX10_force 4 = .ok (.iload_n 1, 1) := by decide +kernel
theorem dX10_force_5 : decode cX10_force 5 = .ok (.invokevirtual 224, 3) := by decide +kernel
theorem dX10_force_8 : decode cX10_force 8 = .ok (.astore_n 3, 1) := by decide +kernel
theorem dX10_force_9 : decode cX10_force 9 = .ok (.aload_n 3, 1) := by decide +kernel
theorem dX10_force_10 : decode cX10_force 10 = .ok (.ifnonnull 5, 3) := by decide +kernel
theorem dX10_force_13 : decode cX10_force 13 = .ok (.iconst (-1), 1) := by decide +kernel
theorem dX10_force_14 : decode cX10_force 14 = .ok (.ireturn, 1) := by decide +kernel
theorem dX10_force_15 : decode cX10_force 15 = .ok (.iload_n 2, 1) := by decide +kernel
theorem dX10_force_16 : decode cX10_force 16 = .ok (.ifCond .ne 8, 3) := by decide +kernel
theorem dX10_force_19 : decode cX10_force 19 = .ok (.aload_n 3, 1) := by decide +kernel
theorem dX10_force_20 : decode cX10_force 20 = .ok (.getfield 228, 3) := by decide +kernel
theorem dX10_force_23 : decode cX10_force 23 = .ok (.ireturn, 1) := by decide +kernel
theorem dX10_force_24 : decode cX10_force 24 = .ok (.iload_n 2, 1) := by decide +kernel
theorem dX10_force_25 : decode cX10_force 25 = .ok (.iconst 1, 1) := by decide +kernel
theorem dX10_force_26 : decode cX10_force 26 = .ok (.if_icmp .ne 8, 3) := by decide +kernel
theorem dX10_force_29 : decode cX10_force 29 = .ok (.aload_n 3, 1) := by decide +kernel
theorem dX10_force_30 : decode cX10_force 30 = .ok (.getfield 232, 3) := by decide +kernel
theorem dX10_force_33 : decode cX10_force 33 = .ok (.ireturn, 1) := by decide +kernel
theorem dX10_force_34 : decode cX10_force 34 = .ok (.iload_n 2, 1) := by decide +kernel
theorem dX10_force_35 : decode cX10_force 35 = .ok (.iconst 2, 1) := by decide +kernel
theorem dX10_force_36 : decode cX10_force 36 = .ok (.if_icmp .ne 16, 3) := by decide +kernel
theorem dX10_force_39 : decode cX10_force 39 = .ok (.aload_n 3, 1) := by decide +kernel
theorem dX10_force_40 : decode cX10_force 40 = .ok (.getfield 235, 3) := by decide +kernel
theorem dX10_force_43 : decode cX10_force 43 = .ok (.ifCond .eq 7, 3) := by decide +kernel
theorem dX10_force_46 : decode cX10_force 46 = .ok (.iconst 1, 1) := by decide +kernel
theorem dX10_force_47 : decode cX10_force 47 = .ok (.goto 4, 3) := by decide +kernel
theorem dX10_force_50 : decode cX10_force 50 = .ok (.iconst 0, 1) := by decide +kernel
theorem dX10_force_51 : decode cX10_force 51 = .ok (.ireturn, 1) := by decide +kernel
theorem dX10_force_52 : decode cX10_force 52 = .ok (.iload_n 2, 1) := by decide +kernel
theorem dX10_force_53 : decode cX10_force 53 = .ok (.bipush 10, 2) := by decide +kernel
theorem dX10_force_55 : decode cX10_force 55 = .ok (.if_icmp .lt 26, 3) := by decide +kernel
theorem dX10_force_58 : decode cX10_force 58 = .ok (.aload_n 3, 1) := by decide +kernel
theorem dX10_force_59 : decode cX10_force 59 = .ok (.iload_n 2, 1) := by decide +kernel
theorem dX10_force_60 : decode cX10_force 60 = .ok (.bipush 10, 2) := by decide +kernel
theorem dX10_force_62 : decode cX10_force 62 = .ok (.isub, 1) := by decide +kernel
theorem dX10_force_63 : decode cX10_force 63 = .ok (.invokevirtual 238, 3) := by decide +kernel
theorem dX10_force_66 : decode cX10_force 66 = .ok (.ifCond .eq 15, 3) := by decide +kernel
theorem dX10_force_69 : decode cX10_force 69 = .ok (.aload_n 3, 1) := by decide +kernel
theorem dX10_force_70 : decode cX10_force 70 = .ok (.getfield 241, 3) := by decide +kernel
theorem dX10_force_73 : decode cX10_force 73 = .ok (.iload_n 2, 1) := by decide +kernel
theorem dX10_force_74 : decode cX10_force 74 = .ok (.bipush 10, 2) := by decide +kernel
theorem dX10_force_76 : decode cX10_force 76 = .ok (.isub, 1) := by decide +kernel
theorem dX10_force_77 : decode cX10_force 77 = .ok (.iaload, 1) := by decide +kernel
theorem dX10_force_78 : decode cX10_force 78 = .ok (.goto 4, 3) := by decide +kernel
theorem dX10_force_81 : decode cX10_force 81 = .ok (.iconst (-1), 1) := by decide +kernel
theorem dX10_force_82 : decode cX10_force 82 = .ok (.ireturn, 1) := by decide +kernel
set_option maxRecDepth 100000 in
theorem c_W_force (τ : XS) (p0 : Int32) (p1 : Int32) : Ct z (wX z σ) rI eqA yX10_force cX10_force 4 (some .int) 2 0 0 [.ref 36, .int p0, .int p1] τ ((W_force τ p0 p1).map fun r => (r, τ)) := by
  refine Ct.of (by decide) (Nat.le_of_ble_eq_true rfl) (fun ad x hC hR _ => ?_)
  show AT z x 4 (wX z σ) rI (eqA ad) 0 0 0 0 ad 0 [(0, .ref 36), (1, .int p0), (2, .int p1)] [] τ ((W_force τ p0 p1).map fun r => (r, τ))
  unfold W_force
  refine at_aload_n (j := 0) hC rfl rfl dX10_force_0 ?_
  refine gf_X10_37 hC dX10_force_1 ?_
  refine at_iload_n (j := 1) hC rfl rfl dX10_force_4 ?_
  refine ap_callVR hC hR lk_X10_224 (c_Lw_actAt τ p0) dX10_force_5 recX3 rfl rfl ⟨by decide, by decide⟩ (Nat.le_of_ble_eq_true rfl) ⟨Nat.le_refl 0, Nat.le_refl 0⟩ (fun r1 _ => ?_)
  refine at_astore_nV (lv' := [(3, vr r1), (0, .ref 36), (1, .int p0), (2, .int p1)]) hC rfl dX10_force_8 (by decide) rfl ?_
  refine at_aload_nV (j := 0) hC rfl rfl dX10_force_9 ?_
  refine ap_ifnonnull (tgt := 15) hC dX10_force_10 rfl ?_ ?_
  · refine at_iload_n (j := 3) hC rfl rfl dX10_force_15 ?_
    refine ap_if_ne (tgt := 24) hC dX10_force_16 rfl (fun _ => ?_) (fun _ => ?_)
    · refine at_iload_n (j := 3) hC rfl rfl dX10_force_24 ?_
      refine at_iconst hC ic_1 dX10_force_25 ?_
      refine ap_icmp_ne (tgt := 34) hC dX10_force_26 rfl (fun _ => ?_) (fun _ => ?_)
      · refine at_iload_n (j := 3) hC rfl rfl dX10_force_34 ?_
        refine at_iconst hC ic_2 dX10_force_35 ?_
        refine ap_icmp_ne (tgt := 52) hC dX10_force_36 rfl (fun _ => ?_) (fun _ => ?_)
        · refine at_iload_n (j := 3) hC rfl rfl dX10_force_52 ?_
          refine at_bipush hC bi_10 dX10_force_53 ?_
          refine ap_icmp_lt (tgt := 81) hC dX10_force_55 rfl (fun _ => ?_) (fun _ => ?_)
          · refine at_iconst hC ic_m1 dX10_force_81 ?_
            exact at_iret (F := eqA ad) (ra := rI) hC dX10_force_82 rfl (Nat.le_refl 0) (Nat.le_refl 0) rfl
          · refine at_aload_nV (j := 0) hC rfl rfl dX10_force_58 ?_
            refine at_iload_n (j := 3) hC rfl rfl dX10_force_59 ?_
            refine at_bipush hC bi_10 dX10_force_60 ?_
            refine at_isub hC dX10_force_62 ?_
            refine ap_oA (pre := [.int (p1 - 10)]) rfl (fun a_1 _ hg1 => ?_)
            show AT z x 4 (wX z σ) rI (eqA ad) 0 0 0 0 ad 63 [(3, vr r1), (0, .ref 36), (1, .int p0), (2, .int p1)] [.int (p1 - 10), .ref (80 + 7 * a_1)] τ _
            refine ap_callVI hC hR lk_X10_238 (c_Ac_hasClause τ a_1 (p1 - 10)) dX10_force_63 ⟨0, _, _, rfl, rfl, cla hg1⟩ rfl rfl ⟨by decide, by decide⟩ (Nat.le_of_ble_eq_true rfl) ⟨Nat.le_refl 0, Nat.le_refl 0⟩ (fun r2 _ => ?_)
            refine ap_if_eq (tgt := 81) hC dX10_force_66 rfl (fun _ => ?_) (fun _ => ?_)
            · refine at_iconst hC ic_m1 dX10_force_81 ?_
              exact at_iret (F := eqA ad) (ra := rI) hC dX10_force_82 rfl (Nat.le_refl 0) (Nat.le_refl 0) rfl
            · refine at_aload_nV (j := 0) hC rfl rfl dX10_force_69 ?_
              refine ap_oA (pre := []) rfl (fun a_2 _ hg2 => ?_)
              refine at_get (v := .ref (80 + 7 * a_2 + 1)) (C := RX0) (T := TX0) (N := 10) (ci := 0) (j := 3) hC (80 + 7 * a_2) dX10_force_70 inX0 (cla hg2) rfl (by decide) lf_X10_241 rfl rfl ?_
              refine at_iload_n (j := 3) hC rfl rfl dX10_force_73 ?_
              refine at_bipush hC bi_10 dX10_force_74 ?_
              refine at_isub hC dX10_force_76 ?_
              refine ap_iald hC (80 + 7 * a_2 + 1) dX10_force_77 (cla_1 hg2) (fun v3 => ?_)
              refine at_goto (tgt := 82) hC dX10_force_78 rfl ?_
              exact at_iret (F := eqA ad) (ra := rI) hC dX10_force_82 rfl (Nat.le_refl 0) (Nat.le_refl 0) rfl
        · refine at_aload_nV (j := 0) hC rfl rfl dX10_force_39 ?_
          refine ap_oA (pre := []) rfl (fun a_3 _ hg3 => ?_)
          refine at_get (v := .int (tF τ a_3 1)) (C := RX0) (T := TX0) (N := 10) (ci := 0) (j := 1) hC (80 + 7 * a_3) dX10_force_40 inX0 (cla hg3) rfl (by decide) lf_X10_235 rfl rfl ?_
          refine ap_if_eq (tgt := 50) hC dX10_force_43 rfl (fun _ => ?_) (fun _ => ?_)
          · refine at_iconst hC ic_0 dX10_force_50 ?_
            exact at_iret (F := eqA ad) (ra := rI) hC dX10_force_51 rfl (Nat.le_refl 0) (Nat.le_refl 0) rfl
          · refine at_iconst hC ic_1 dX10_force_46 ?_
            refine at_goto (tgt := 51) hC dX10_force_47 rfl ?_
            exact at_iret (F := eqA ad) (ra := rI) hC dX10_force_51 rfl (Nat.le_refl 0) (Nat.le_refl 0) rfl
      · refine at_aload_nV (j := 0) hC rfl rfl dX10_force_29 ?_
        refine ap_oA (pre := []) rfl (fun a_4 _ hg4 => ?_)
        refine at_get (v := .int (tF τ a_4 2)) (C := RX0) (T := TX0) (N := 10) (ci := 0) (j := 2) hC (80 + 7 * a_4) dX10_force_30 inX0 (cla hg4) rfl (by decide) lf_X10_232 rfl rfl ?_
        exact at_iret (F := eqA ad) (ra := rI) hC dX10_force_33 rfl (Nat.le_refl 0) (Nat.le_refl 0) rfl
    · refine at_aload_nV (j := 0) hC rfl rfl dX10_force_19 ?_
      refine ap_oA (pre := []) rfl (fun a_5 _ hg5 => ?_)
      refine at_get (v := .int (tF τ a_5 0)) (C := RX0) (T := TX0) (N := 10) (ci := 0) (j := 0) hC (80 + 7 * a_5) dX10_force_20 inX0 (cla hg5) rfl (by decide) lf_X10_228 rfl rfl ?_
      exact at_iret (F := eqA ad) (ra := rI) hC dX10_force_23 rfl (Nat.le_refl 0) (Nat.le_refl 0) rfl
  · refine at_iconst hC ic_m1 dX10_force_13 ?_
    exact at_iret (F := eqA ad) (ra := rI) hC dX10_force_14 rfl (Nat.le_refl 0) (Nat.le_refl 0) rfl
theorem dX10_out_0 : decode cX10_out 0 = .ok (.aload_n 0, 1) := by decide +kernel
theorem dX10_out_1 : decode cX10_out 1 = .ok (.getfield 37, 3) := by decide +kernel
theorem dX10_out_4 : decode cX10_out 4 = .ok (.iload_n 1, 1) := by decide +kernel
theorem dX10_out_5 : decode cX10_out 5 = .ok (.invokevirtual 224, 3) := by decide +kernel
theorem dX10_out_8 : decode cX10_out 8 = .ok (.astore 4, 2) := by decide +kernel
theorem dX10_out_10 : decode cX10_out 10 = .ok (.aload 4, 2) := by decide +kernel
theorem dX10_out_12 : decode cX10_out 12 = .ok (.ifnull 12, 3) := by decide +kernel
theorem dX10_out_15 : decode cX10_out 15 = .ok (.aload 4, 2) := by decide +kernel
theorem dX10_out_17 : decode cX10_out 17 = .ok (.iload_n 2, 1) := by decide +kernel
theorem dX10_out_18 : decode cX10_out 18 = .ok (.invokevirtual 238, 3) := by decide +kernel
theorem dX10_out_21 : decode cX10_out 21 = .ok (.ifCond .ne 5, 3) := by decide +kernel
theorem dX10_out_24 : decode cX10_out 24 = .ok (.iconst (-1), 1) := by decide +kernel
theorem dX10_out_25 : decode cX10_out 25 = .ok (.ireturn, 1) := by decide +kernel
theorem dX10_out_26 : decode cX10_out 26 = .ok (.iload_n 3, 1) := by decide +kernel
theorem dX10_out_27 : decode cX10_out 27 = .ok (.invokestatic 93, 3) := by decide +kernel
theorem dX10_out_30 : decode cX10_out 30 = .ok (.ifCond .ne 6, 3) := by decide +kernel
theorem dX10_out_33 : decode cX10_out 33 = .ok (.bipush (-2), 2) := by decide +kernel
theorem dX10_out_35 : decode cX10_out 35 = .ok (.ireturn, 1) := by decide +kernel
theorem dX10_out_36 : decode cX10_out 36 = .ok (.aload 4, 2) := by decide +kernel
theorem dX10_out_38 : decode cX10_out 38 = .ok (.getfield 244, 3) := by decide +kernel
theorem dX10_out_41 : decode cX10_out 41 = .ok (.iload_n 2, 1) := by decide +kernel
theorem dX10_out_42 : decode cX10_out 42 = .ok (.iaload, 1) := by decide +kernel
theorem dX10_out_43 : decode cX10_out 43 = .ok (.sipush 10000, 3) := by decide +kernel
theorem dX10_out_46 : decode cX10_out 46 = .ok (.if_icmp .ne 7, 3) := by decide +kernel
theorem dX10_out_49 : decode cX10_out 49 = .ok (.iconst 1, 1) := by decide +kernel
theorem dX10_out_50 : decode cX10_out 50 = .ok (.goto 4, 3) := by decide +kernel
theorem dX10_out_53 : decode cX10_out 53 = .ok (.iconst 0, 1) := by decide +kernel
theorem dX10_out_54 : decode cX10_out 54 = .ok (.istore 5, 2) := by decide +kernel
theorem dX10_out_56 : decode cX10_out 56 = .ok (.aload 4, 2) := by decide +kernel
theorem dX10_out_58 : decode cX10_out 58 = .ok (.getfield 244, 3) := by decide +kernel
theorem dX10_out_61 : decode cX10_out 61 = .ok (.iload_n 2, 1) := by decide +kernel
theorem dX10_out_62 : decode cX10_out 62 = .ok (.aload 4, 2) := by decide +kernel
theorem dX10_out_64 : decode cX10_out 64 = .ok (.getfield 244, 3) := by decide +kernel
theorem dX10_out_67 : decode cX10_out 67 = .ok (.iload_n 2, 1) := by decide +kernel
theorem dX10_out_68 : decode cX10_out 68 = .ok (.iaload, 1) := by decide +kernel
theorem dX10_out_69 : decode cX10_out 69 = .ok (.iload_n 3, 1) := by decide +kernel
theorem dX10_out_70 : decode cX10_out 70 = .ok (.invokestatic 247, 3) := by decide +kernel
theorem dX10_out_73 : decode cX10_out 73 = .ok (.iastore, 1) := by decide +kernel
theorem dX10_out_74 : decode cX10_out 74 = .ok (.iload 5, 2) := by decide +kernel
theorem dX10_out_76 : decode cX10_out 76 = .ok (.ifCond .eq 7, 3) := by decide +kernel
theorem dX10_out_79 : decode cX10_out 79 = .ok (.iconst 1, 1) := by decide +kernel
theorem dX10_out_80 : decode cX10_out 80 = .ok (.goto 4, 3) := by decide +kernel
theorem dX10_out_83 : decode cX10_out 83 = .ok (.iconst 0, 1) := by decide +kernel
theorem dX10_out_84 : decode cX10_out 84 = .ok (.ireturn, 1) := by decide +kernel
set_option maxRecDepth 100000 in
theorem t_W_out_J54 (hC : CX z ad x cX10_out RX10 6 (some .int)) (hR : x.2.2.1 = rmk 5 0 0) (τ : XS) (a2 : Int32) (a3 : Int32) (a4 : Option Nat) (s0 : Int32) : AT z x 6 (wX z σ) rI (eqA ad) 0 0 0 0 ad 54 [(2, .int a2), (3, .int a3), (4, vr a4)] [.int s0] τ (W_out_J54 τ a2 a3 a4 s0) := by
  unfold W_out_J54
  refine at_istore (lv' := [(5, .int s0), (2, .int a2), (3, .int a3), (4, vr a4)]) hC dX10_out_54 (by decide) (by cases a4 <;> rfl) ?_
  refine at_aloadV (j := 3) hC rfl dX10_out_56 ?_
  refine at_oA (pre := []) rfl (fun a_3 _ hg3 => ?_)
  refine at_get (v := .ref (80 + 7 * a_3 + 5)) (C := RX0) (T := TX0) (N := 10) (ci := 0) (j := 7) hC (80 + 7 * a_3) dX10_out_58 inX0 (cla hg3) rfl (by decide) lf_X10_244 rfl rfl ?_
  refine at_iload_n (j := 1) hC rfl rfl dX10_out_61 ?_
  refine at_aloadV (j := 3) hC rfl dX10_out_62 ?_
  refine at_oA (pre := []) rfl (fun a_4 _ hg4 => ?_)
  refine at_get (v := .ref (80 + 7 * a_4 + 5)) (C := RX0) (T := TX0) (N := 10) (ci := 0) (j := 7) hC (80 + 7 * a_4) dX10_out_64 inX0 (cla hg4) rfl (by decide) lf_X10_244 rfl rfl ?_
  refine at_iload_n (j := 1) hC rfl rfl dX10_out_67 ?_
  refine at_iald hC (80 + 7 * a_4 + 5) dX10_out_68 (cla_5 hg4) (fun v5 => ?_)
  refine at_iload_n (j := 2) hC rfl rfl dX10_out_69 ?_
  refine at_mnI hC hR lkm_X10_247 dX10_out_70 (by decide) (Nat.le_of_ble_eq_true rfl) ⟨Nat.le_refl 0, Nat.le_refl 0⟩ ?_
  refine at_iast hC (80 + 7 * a_3 + 5) dX10_out_73 (cla_5 hg3) (sta_5 hg3) ?_
  refine at_iload (j := 0) hC rfl dX10_out_74 ?_
  refine at_if_eq (tgt := 83) hC dX10_out_76 rfl (fun _ => ?_) (fun _ => ?_)
  · refine at_iconst hC ic_0 dX10_out_83 ?_
    exact at_iret (F := eqA ad) (ra := rI) hC dX10_out_84 rfl (Nat.le_refl 0) (Nat.le_refl 0) rfl
  · refine at_iconst hC ic_1 dX10_out_79 ?_
    refine at_goto (tgt := 84) hC dX10_out_80 rfl ?_
    exact at_iret (F := eqA ad) (ra := rI) hC dX10_out_84 rfl (Nat.le_refl 0) (Nat.le_refl 0) rfl
set_option maxRecDepth 100000 in
theorem c_W_out (τ : XS) (p0 : Int32) (p1 : Int32) (p2 : Int32) : Ct z (wX z σ) rI eqA yX10_out cX10_out 6 (some .int) 5 0 0 [.ref 36, .int p0, .int p1, .int p2] τ (W_out τ p0 p1 p2) := by
  refine Ct.of (by decide) (Nat.le_of_ble_eq_true rfl) (fun ad x hC hR _ => ?_)
  show AT z x 6 (wX z σ) rI (eqA ad) 0 0 0 0 ad 0 [(0, .ref 36), (1, .int p0), (2, .int p1), (3, .int p2)] [] τ (W_out τ p0 p1 p2)
  unfold W_out
  refine at_aload_n (j := 0) hC rfl rfl dX10_out_0 ?_
  refine gf_X10_37 hC dX10_out_1 ?_
  refine at_iload_n (j := 1) hC rfl rfl dX10_out_4 ?_
  refine at_callVpR hC hR lk_X10_224 (c_Lw_actAt τ p0) dX10_out_5 recX3 rfl rfl ⟨by decide, by decide⟩ (Nat.le_of_ble_eq_true rfl) ⟨Nat.le_refl 0, Nat.le_refl 0⟩ (fun r1 _ => ?_)
  refine at_astoreV (lv' := [(4, vr r1), (0, .ref 36), (1, .int p0), (2, .int p1), (3, .int p2)]) hC dX10_out_8 (by decide) rfl ?_
  refine at_aloadV (j := 0) hC rfl dX10_out_10 ?_
  refine at_ifnull (tgt := 24) hC dX10_out_12 rfl ?_ ?_
  · refine at_iconst hC ic_m1 dX10_out_24 ?_
    exact at_iret (F := eqA ad) (ra := rI) hC dX10_out_25 rfl (Nat.le_refl 0) (Nat.le_refl 0) rfl
  · refine at_aloadV (j := 0) hC rfl dX10_out_15 ?_
    refine at_iload_n (j := 3) hC rfl rfl dX10_out_17 ?_
    refine at_oA (pre := [.int p1]) rfl (fun a_1 _ hg1 => ?_)
    show AT z x 6 (wX z σ) rI (eqA ad) 0 0 0 0 ad 18 [(4, vr r1), (0, .ref 36), (1, .int p0), (2, .int p1), (3, .int p2)] [.int p1, .ref (80 + 7 * a_1)] τ _
    refine at_callVpI hC hR lk_X10_238 (c_Ac_hasClause τ a_1 p1) dX10_out_18 ⟨0, _, _, rfl, rfl, cla hg1⟩ rfl rfl ⟨by decide, by decide⟩ (Nat.le_of_ble_eq_true rfl) ⟨Nat.le_refl 0, Nat.le_refl 0⟩ (fun r2 _ => ?_)
    refine at_if_ne (tgt := 26) hC dX10_out_21 rfl (fun _ => ?_) (fun _ => ?_)
    · refine at_iload_n (j := 4) hC rfl rfl dX10_out_26 ?_
      refine at_callSpI hC hR lk_X10_93 (c_W_isDay τ p2) dX10_out_27 rfl rfl ⟨by decide, by decide⟩ (Nat.le_of_ble_eq_true rfl) ⟨Nat.le_refl 0, Nat.le_refl 0⟩ (fun r3 _ => ?_)
      refine at_if_ne (tgt := 36) hC dX10_out_30 rfl (fun _ => ?_) (fun _ => ?_)
      · refine at_aloadV (j := 0) hC rfl dX10_out_36 ?_
        refine at_oA (pre := []) rfl (fun a_2 _ hg2 => ?_)
        refine at_get (v := .ref (80 + 7 * a_2 + 5)) (C := RX0) (T := TX0) (N := 10) (ci := 0) (j := 7) hC (80 + 7 * a_2) dX10_out_38 inX0 (cla hg2) rfl (by decide) lf_X10_244 rfl rfl ?_
        refine at_iload_n (j := 3) hC rfl rfl dX10_out_41 ?_
        refine at_iald hC (80 + 7 * a_2 + 5) dX10_out_42 (cla_5 hg2) (fun v4 => ?_)
        refine at_sipush hC si_10000 dX10_out_43 ?_
        refine at_icmp_ne (tgt := 53) hC dX10_out_46 rfl (fun _ => ?_) (fun _ => ?_)
        · refine at_iconst hC ic_0 dX10_out_53 ?_
          refine at_drop (lv' := [(2, .int p1), (3, .int p2), (4, vr r1)]) [3, 4, 0] rfl ?_
          exact t_W_out_J54 hC hR τ p1 p2 r1 0
        · refine at_iconst hC ic_1 dX10_out_49 ?_
          refine at_goto (tgt := 54) hC dX10_out_50 rfl ?_
          refine at_drop (lv' := [(2, .int p1), (3, .int p2), (4, vr r1)]) [3, 4, 0] rfl ?_
          exact t_W_out_J54 hC hR τ p1 p2 r1 1
      · refine at_bipush hC bi_m2 dX10_out_33 ?_
        exact at_iret (F := eqA ad) (ra := rI) hC dX10_out_35 rfl (Nat.le_refl 0) (Nat.le_refl 0) rfl
    · refine at_iconst hC ic_m1 dX10_out_24 ?_
      exact at_iret (F := eqA ad) (ra := rI) hC dX10_out_25 rfl (Nat.le_refl 0) (Nat.le_refl 0) rfl
theorem dX10_isSubject_0 : decode cX10_isSubject 0 = .ok (.iload_n 0, 1) := by decide +kernel
theorem dX10_isSubject_1 : decode cX10_isSubject 1 = .ok (.ifCond .lt 13, 3) := by decide +kernel
theorem dX10_isSubject_4 : decode cX10_isSubject 4 = .ok (.iload_n 0, 1) := by decide +kernel
theorem dX10_isSubject_5 : decode cX10_isSubject 5 = .ok (.bipush 9, 2) := by decide +kernel
theorem dX10_isSubject_7 : decode cX10_isSubject 7 = .ok (.if_icmp .ge 7, 3) := by decide +kernel
theorem dX10_isSubject_10 : decode cX10_isSubject 10 = .ok (.iconst 1, 1) := by decide +kernel
theorem dX10_isSubject_11 : decode cX10_isSubject 11 = .ok (.goto 4, 3) := by decide +kernel
theorem dX10_isSubject_14 : decode cX10_isSubject 14 = .ok (.iconst 0, 1) := by decide +kernel
theorem dX10_isSubject_15 : decode cX10_isSubject 15 = .ok (.ireturn, 1) := by decide +kernel
set_option maxRecDepth 100000 in
theorem c_W_isSubject (τ : XS) (p0 : Int32) : Ct z (wX z σ) rI eqA yX10_isSubject cX10_isSubject 1 (some .boolean) 1 0 0 [.int p0] τ ((W_isSubject τ p0).map fun r => (r, τ)) := by
  refine Ct.of (by decide) (Nat.le_of_ble_eq_true rfl) (fun ad x hC hR _ => ?_)
  show AT z x 1 (wX z σ) rI (eqA ad) 0 0 0 0 ad 0 [(0, .int p0)] [] τ ((W_isSubject τ p0).map fun r => (r, τ))
  unfold W_isSubject
  refine at_iload_n (j := 0) hC rfl rfl dX10_isSubject_0 ?_
  refine ap_if_lt (tgt := 14) hC dX10_isSubject_1 rfl (fun _ => ?_) (fun _ => ?_)
  · refine at_iconst hC ic_0 dX10_isSubject_14 ?_
    exact at_zret (F := eqA ad) (ra := rI) hC nb0 dX10_isSubject_15 rfl (Nat.le_refl 0) (Nat.le_refl 0) rfl
  · refine at_iload_n (j := 0) hC rfl rfl dX10_isSubject_4 ?_
    refine at_bipush hC bi_9 dX10_isSubject_5 ?_
    refine ap_icmp_ge (tgt := 14) hC dX10_isSubject_7 rfl (fun _ => ?_) (fun _ => ?_)
    · refine at_iconst hC ic_0 dX10_isSubject_14 ?_
      exact at_zret (F := eqA ad) (ra := rI) hC nb0 dX10_isSubject_15 rfl (Nat.le_refl 0) (Nat.le_refl 0) rfl
    · refine at_iconst hC ic_1 dX10_isSubject_10 ?_
      refine at_goto (tgt := 15) hC dX10_isSubject_11 rfl ?_
      exact at_zret (F := eqA ad) (ra := rI) hC nb1 dX10_isSubject_15 rfl (Nat.le_refl 0) (Nat.le_refl 0) rfl
theorem dX10_refuseRule_0 : decode cX10_refuseRule 0 = .ok (.iload_n 1, 1) := by decide +kernel
theorem dX10_refuseRule_1 : decode cX10_refuseRule 1 = .ok (.invokestatic 264, 3) := by decide +kernel
theorem dX10_refuseRule_4 : decode cX10_refuseRule 4 = .ok (.ifCond .eq 31, 3) := by decide +kernel
theorem dX10_refuseRule_7 : decode cX10_refuseRule 7 = .ok (.iload_n 2, 1) := by decide +kernel
theorem dX10_refuseRule_8 : decode cX10_refuseRule 8 = .ok (.iconst (-1), 1) := by decide +kernel
theorem dX10_refuseRule_9 : decode cX10_refuseRule 9 = .ok (.if_icmp .eq 14, 3) := by decide +kernel
theorem dX10_refuseRule_12 : decode cX10_refuseRule 12 = .ok (.aload_n 0, 1) := by decide +kernel
theorem dX10_refuseRule_13 : decode cX10_refuseRule 13 = .ok (.getfield 14, 3) := by decide +kernel
theorem dX10_refuseRule_16 : decode cX10_refuseRule 16 = .ok (.iload_n 2, 1) := by decide +kernel
theorem dX10_refuseRule_17 : decode cX10_refuseRule 17 = .ok (.invokevirtual 86, 3) := by decide +kernel
theorem dX10_refuseRule_20 : decode cX10_refuseRule 20 = .ok (.ifCond .eq 15, 3) := by decide +kernel
theorem dX10_refuseRule_23 : decode cX10_refuseRule 23 = .ok (.aload_n 0, 1) := by decide +kernel
theorem dX10_refuseRule_24 : decode cX10_refuseRule 24 = .ok (.getfield 14, 3) := by decide +kernel
theorem dX10_refuseRule_27 : decode cX10_refuseRule 27 = .ok (.iload 4, 2) := by decide +kernel
theorem dX10_refuseRule_29 : decode cX10_refuseRule 29 = .ok (.invokevirtual 171, 3) := by decide +kernel
theorem dX10_refuseRule_32 : decode cX10_refuseRule 32 = .ok (.ifCond .ne 5, 3) := by decide +kernel
theorem dX10_refuseRule_35 : decode cX10_refuseRule 35 = .ok (.iconst (-1), 1) := by decide +kernel
theorem dX10_refuseRule_36 : decode cX10_refuseRule 36 = .ok (.ireturn, 1) := by decide +kernel
theorem dX10_refuseRule_37 : decode cX10_refuseRule 37 = .ok (.iload_n 3, 1) := by decide +kernel
theorem dX10_refuseRule_38 : decode cX10_refuseRule 38 = .ok (.invokestatic 93, 3) := by decide +kernel
theorem dX10_refuseRule_41 : decode cX10_refuseRule 41 = .ok (.ifCond .ne 6, 3) := by decide +kernel
theorem dX10_refuseRule_44 : decode cX10_refuseRule 44 = .ok (.bipush (-2), 2) := by decide +kernel
theorem dX10_refuseRule_46 : decode cX10_refuseRule 46 = .ok (.ireturn, 1) := by decide +kernel
theorem dX10_refuseRule_47 : decode cX10_refuseRule 47 = .ok (.aload_n 0, 1) := by decide +kernel
theorem dX10_refuseRule_48 : decode cX10_refuseRule 48 = .ok (.getfield 23, 3) := by decide +kernel
theorem dX10_refuseRule_51 : decode cX10_refuseRule 51 = .ok (.iload 4, 2) := by decide +kernel
theorem dX10_refuseRule_53 : decode cX10_refuseRule 53 = .ok (.invokevirtual 119, 3) := by decide +kernel
theorem dX10_refuseRule_56 : decode cX10_refuseRule 56 = .ok (.aload_n 0, 1) := by decide +kernel
theorem dX10_refuseRule_57 : decode cX10_refuseRule 57 = .ok (.getfield 37, 3) := by decide +kernel
theorem dX10_refuseRule_60 : decode cX10_refuseRule 60 = .ok (.aload_n 0, 1) := by decide +kernel
theorem dX10_refuseRule_61 : decode cX10_refuseRule 61 = .ok (.getfield 23, 3) := by decide +kernel
theorem dX10_refuseRule_64 : decode cX10_refuseRule 64 = .ok (.iload_n 2, 1) := by decide +kernel
theorem dX10_refuseRule_65 : decode cX10_refuseRule 65 = .ok (.iload_n 3, 1) := by decide +kernel
theorem dX10_refuseRule_66 : decode cX10_refuseRule 66 = .ok (.invokevirtual 267, 3) := by decide +kernel
theorem dX10_refuseRule_69 : decode cX10_refuseRule 69 = .ok (.iconst 0, 1) := by decide +kernel
theorem dX10_refuseRule_70 : decode cX10_refuseRule 70 = .ok (.ireturn, 1) := by decide +kernel
set_option maxRecDepth 100000 in
theorem t_W_refuseRule_J23 (hC : CX z ad x cX10_refuseRule RX10 5 (some .int)) (hR : x.2.2.1 = rmk 7 0 0) (τ : XS) (a2 : Int32) (a3 : Int32) (a4 : Int32) : AT z x 5 (wX z σ) rI (eqA ad) 0 0 0 0 ad 23 [(0, .ref 36), (2, .int a2), (3, .int a3), (4, .int a4)] [] τ (W_refuseRule_J23 τ a2 a3 a4) := by
  unfold W_refuseRule_J23
  refine at_aload_n (j := 0) hC rfl rfl dX10_refuseRule_23 ?_
  refine gf_X10_14 hC dX10_refuseRule_24 ?_
  refine at_iload (j := 3) hC rfl dX10_refuseRule_27 ?_
  refine at_callVpI hC hR lk_X10_171 (c_Bk_isReach τ a4) dX10_refuseRule_29 recX1 rfl rfl ⟨by decide, by decide⟩ (Nat.le_of_ble_eq_true rfl) ⟨Nat.le_refl 0, Nat.le_refl 0⟩ (fun r2 _ => ?_)
  refine at_if_ne (tgt := 37) hC dX10_refuseRule_32 rfl (fun _ => ?_) (fun _ => ?_)
  · refine at_iload_n (j := 2) hC rfl rfl dX10_refuseRule_37 ?_
    refine at_callSpI hC hR lk_X10_93 (c_W_isDay τ a3) dX10_refuseRule_38 rfl rfl ⟨by decide, by decide⟩ (Nat.le_of_ble_eq_true rfl) ⟨Nat.le_refl 0, Nat.le_refl 0⟩ (fun r3 _ => ?_)
    refine at_if_ne (tgt := 47) hC dX10_refuseRule_41 rfl (fun _ => ?_) (fun _ => ?_)
    · refine at_aload_n (j := 0) hC rfl rfl dX10_refuseRule_47 ?_
      refine gf_X10_23 hC dX10_refuseRule_48 ?_
      refine at_iload (j := 3) hC rfl dX10_refuseRule_51 ?_
      refine at_callVU hC hR lk_X10_119 (c_Lv_readBook τ a4) dX10_refuseRule_53 recX4 rfl rfl ⟨by decide, by decide⟩ (Nat.le_of_ble_eq_true rfl) ⟨Nat.le_refl 0, Nat.le_refl 0⟩ (fun r4 r4s _ => ?_)
      refine at_aload_n (j := 0) hC rfl rfl dX10_refuseRule_56 ?_
      refine gf_X10_37 hC dX10_refuseRule_57 ?_
      refine at_aload_n (j := 0) hC rfl rfl dX10_refuseRule_60 ?_
      refine gf_X10_23 hC dX10_refuseRule_61 ?_
      refine at_iload_n (j := 1) hC rfl rfl dX10_refuseRule_64 ?_
      refine at_iload_n (j := 2) hC rfl rfl dX10_refuseRule_65 ?_
      refine at_callVU hC hR lk_X10_267 (c_Lw_nameFor r4s a2 a3) dX10_refuseRule_66 recX3 rfl rfl ⟨by decide, by decide⟩ (Nat.le_of_ble_eq_true rfl) ⟨Nat.le_refl 0, Nat.le_refl 0⟩ (fun r5 r5s _ => ?_)
      refine at_iconst hC ic_0 dX10_refuseRule_69 ?_
      exact at_iret (F := eqA ad) (ra := rI) hC dX10_refuseRule_70 rfl (Nat.le_refl 0) (Nat.le_refl 0) rfl
    · refine at_bipush hC bi_m2 dX10_refuseRule_44 ?_
      exact at_iret (F := eqA ad) (ra := rI) hC dX10_refuseRule_46 rfl (Nat.le_refl 0) (Nat.le_refl 0) rfl
  · refine at_iconst hC ic_m1 dX10_refuseRule_35 ?_
    exact at_iret (F := eqA ad) (ra := rI) hC dX10_refuseRule_36 rfl (Nat.le_refl 0) (Nat.le_refl 0) rfl
set_option maxRecDepth 100000 in
theorem c_W_refuseRule (τ : XS) (p0 : Int32) (p1 : Int32) (p2 : Int32) (p3 : Int32) : Ct z (wX z σ) rI eqA yX10_refuseRule cX10_refuseRule 5 (some .int) 7 0 0 [.ref 36, .int p0, .int p1, .int p2, .int p3] τ (W_refuseRule τ p0 p1 p2 p3) := by
  refine Ct.of (by decide) (Nat.le_of_ble_eq_true rfl) (fun ad x hC hR _ => ?_)
  show AT z x 5 (wX z σ) rI (eqA ad) 0 0 0 0 ad 0 [(0, .ref 36), (1, .int p0), (2, .int p1), (3, .int p2), (4, .int p3)] [] τ (W_refuseRule τ p0 p1 p2 p3)
  unfold W_refuseRule
  refine at_iload_n (j := 1) hC rfl rfl dX10_refuseRule_0 ?_
  refine at_callSpI hC hR lk_X10_264 (c_W_isSubject τ p0) dX10_refuseRule_1 rfl rfl ⟨by decide, by decide⟩ (Nat.le_of_ble_eq_true rfl) ⟨Nat.le_refl 0, Nat.le_refl 0⟩ (fun r1 _ => ?_)
  refine at_if_eq (tgt := 35) hC dX10_refuseRule_4 rfl (fun _ => ?_) (fun _ => ?_)
  · refine at_iconst hC ic_m1 dX10_refuseRule_35 ?_
    exact at_iret (F := eqA ad) (ra := rI) hC dX10_refuseRule_36 rfl (Nat.le_refl 0) (Nat.le_refl 0) rfl
  · refine at_iload_n (j := 2) hC rfl rfl dX10_refuseRule_7 ?_
    refine at_iconst hC ic_m1 dX10_refuseRule_8 ?_
    refine at_icmp_eq (tgt := 23) hC dX10_refuseRule_9 rfl (fun _ => ?_) (fun _ => ?_)
    · refine at_drop (lv' := [(0, .ref 36), (2, .int p1), (3, .int p2), (4, .int p3)]) [0, 2, 3, 4] rfl ?_
      exact t_W_refuseRule_J23 hC hR τ p1 p2 p3
    · refine at_aload_n (j := 0) hC rfl rfl dX10_refuseRule_12 ?_
      refine gf_X10_14 hC dX10_refuseRule_13 ?_
      refine at_iload_n (j := 2) hC rfl rfl dX10_refuseRule_16 ?_
      refine at_callVpI hC hR lk_X10_86 (c_Bk_isMan τ p1) dX10_refuseRule_17 recX1 rfl rfl ⟨by decide, by decide⟩ (Nat.le_of_ble_eq_true rfl) ⟨Nat.le_refl 0, Nat.le_refl 0⟩ (fun r6 _ => ?_)
      refine at_if_eq (tgt := 35) hC dX10_refuseRule_20 rfl (fun _ => ?_) (fun _ => ?_)
      · refine at_iconst hC ic_m1 dX10_refuseRule_35 ?_
        exact at_iret (F := eqA ad) (ra := rI) hC dX10_refuseRule_36 rfl (Nat.le_refl 0) (Nat.le_refl 0) rfl
      · refine at_drop (lv' := [(0, .ref 36), (2, .int p1), (3, .int p2), (4, .int p3)]) [0, 2, 3, 4] rfl ?_
        exact t_W_refuseRule_J23 hC hR τ p1 p2 p3
theorem dX10_rule_0 : decode cX10_rule 0 = .ok (.aload_n 0, 1) := by decide +kernel
theorem dX10_rule_1 : decode cX10_rule 1 = .ok (.iload_n 1, 1) := by decide +kernel
theorem dX10_rule_2 : decode cX10_rule 2 = .ok (.iload_n 2, 1) := by decide +kernel
theorem dX10_rule_3 : decode cX10_rule 3 = .ok (.iload_n 3, 1) := by decide +kernel
theorem dX10_rule_4 : decode cX10_rule 4 = .ok (.iload 4, 2) := by decide +kernel
theorem dX10_rule_6 : decode cX10_rule 6 = .ok (.invokevirtual 252, 3) := by decide +kernel
theorem dX10_rule_9 : decode cX10_rule 9 = .ok (.istore 5, 2) := by decide +kernel
theorem dX10_rule_11 : decode cX10_rule 11 = .ok (.iload 5, 2) := by decide +kernel
theorem dX10_rule_13 : decode cX10_rule 13 = .ok (.ifCond .ge 8, 3) := by decide +kernel
theorem dX10_rule_16 : decode cX10_rule 16 = .ok (.iload 5, 2) := by decide +kernel
theorem dX10_rule_18 : decode cX10_rule 18 = .ok (.goto 12, 3) := by decide +kernel
theorem dX10_rule_21 : decode cX10_rule 21 = .ok (.aload_n 0, 1) := by decide +kernel
theorem dX10_rule_22 : decode cX10_rule 22 = .ok (.getfield 37, 3) := by decide +kernel
theorem dX10_rule_25 : decode cX10_rule 25 = .ok (.iload_n 1, 1) := by decide +kernel
theorem dX10_rule_26 : decode cX10_rule 26 = .ok (.iload_n 3, 1) := by decide +kernel
theorem dX10_rule_27 : decode cX10_rule 27 = .ok (.invokevirtual 255, 3) := by decide +kernel
theorem dX10_rule_30 : decode cX10_rule 30 = .ok (.ireturn, 1) := by decide +kernel
set_option maxRecDepth 100000 in
theorem c_W_rule (τ : XS) (p0 : Int32) (p1 : Int32) (p2 : Int32) (p3 : Int32) : Ct z (wX z σ) rI eqA yX10_rule cX10_rule 6 (some .int) 8 0 0 [.ref 36, .int p0, .int p1, .int p2, .int p3] τ (W_rule τ p0 p1 p2 p3) := by
  refine Ct.of (by decide) (Nat.le_of_ble_eq_true rfl) (fun ad x hC hR _ => ?_)
  show AT z x 6 (wX z σ) rI (eqA ad) 0 0 0 0 ad 0 [(0, .ref 36), (1, .int p0), (2, .int p1), (3, .int p2), (4, .int p3)] [] τ (W_rule τ p0 p1 p2 p3)
  unfold W_rule
  refine at_aload_n (j := 0) hC rfl rfl dX10_rule_0 ?_
  refine at_iload_n (j := 1) hC rfl rfl dX10_rule_1 ?_
  refine at_iload_n (j := 2) hC rfl rfl dX10_rule_2 ?_
  refine at_iload_n (j := 3) hC rfl rfl dX10_rule_3 ?_
  refine at_iload (j := 4) hC rfl dX10_rule_4 ?_
  refine at_callVI hC hR lk_X10_252 (c_W_refuseRule τ p0 p1 p2 p3) dX10_rule_6 recX10 rfl rfl ⟨by decide, by decide⟩ (Nat.le_of_ble_eq_true rfl) ⟨Nat.le_refl 0, Nat.le_refl 0⟩ (fun r1 r1s _ => ?_)
  refine at_istore (lv' := [(5, .int r1), (0, .ref 36), (1, .int p0), (2, .int p1), (3, .int p2), (4, .int p3)]) hC dX10_rule_9 (by decide) rfl ?_
  refine at_iload (j := 0) hC rfl dX10_rule_11 ?_
  refine at_if_ge (tgt := 21) hC dX10_rule_13 rfl (fun _ => ?_) (fun _ => ?_)
  · refine at_aload_n (j := 1) hC rfl rfl dX10_rule_21 ?_
    refine gf_X10_37 hC dX10_rule_22 ?_
    refine at_iload_n (j := 2) hC rfl rfl dX10_rule_25 ?_
    refine at_iload_n (j := 4) hC rfl rfl dX10_rule_26 ?_
    refine at_callVI hC hR lk_X10_255 (c_Lw_ruling r1s p0 p2) dX10_rule_27 recX3 rfl rfl ⟨by decide, by decide⟩ (Nat.le_of_ble_eq_true rfl) ⟨Nat.le_refl 0, Nat.le_refl 0⟩ (fun r2 r2s _ => ?_)
    exact at_iret (F := eqA ad) (ra := rI) hC dX10_rule_30 rfl (Nat.le_refl 0) (Nat.le_refl 0) rfl
  · refine at_iload (j := 0) hC rfl dX10_rule_16 ?_
    refine at_goto (tgt := 30) hC dX10_rule_18 rfl ?_
    exact at_iret (F := eqA ad) (ra := rI) hC dX10_rule_30 rfl (Nat.le_refl 0) (Nat.le_refl 0) rfl
theorem dX10_why_0 : decode cX10_why 0 = .ok (.aload_n 0, 1) := by decide +kernel
theorem dX10_why_1 : decode cX10_why 1 = .ok (.iload_n 1, 1) := by decide +kernel
theorem dX10_why_2 : decode cX10_why 2 = .ok (.iload_n 2, 1) := by decide +kernel
theorem dX10_why_3 : decode cX10_why 3 = .ok (.iload_n 3, 1) := by decide +kernel
theorem dX10_why_4 : decode cX10_why 4 = .ok (.iload 4, 2) := by decide +kernel
theorem dX10_why_6 : decode cX10_why 6 = .ok (.invokevirtual 252, 3) := by decide +kernel
theorem dX10_why_9 : decode cX10_why 9 = .ok (.istore 5, 2) := by decide +kernel
theorem dX10_why_11 : decode cX10_why 11 = .ok (.iload 5, 2) := by decide +kernel
theorem dX10_why_13 : decode cX10_why 13 = .ok (.ifCond .ge 6, 3) := by decide +kernel
theorem dX10_why_16 : decode cX10_why 16 = .ok (.iload 5, 2) := by decide +kernel
theorem dX10_why_18 : decode cX10_why 18 = .ok (.ireturn, 1) := by decide +kernel
theorem dX10_why_19 : decode cX10_why 19 = .ok (.aload_n 0, 1) := by decide +kernel
theorem dX10_why_20 : decode cX10_why 20 = .ok (.getfield 37, 3) := by decide +kernel
theorem dX10_why_23 : decode cX10_why 23 = .ok (.iload_n 1, 1) := by decide +kernel
theorem dX10_why_24 : decode cX10_why 24 = .ok (.iload_n 3, 1) := by decide +kernel
theorem dX10_why_25 : decode cX10_why 25 = .ok (.invokevirtual 255, 3) := by decide +kernel
theorem dX10_why_28 : decode cX10_why 28 = .ok (.pop, 1) := by decide +kernel
theorem dX10_why_29 : decode cX10_why 29 = .ok (.aload_n 0, 1) := by decide +kernel
theorem dX10_why_30 : decode cX10_why 30 = .ok (.getfield 37, 3) := by decide +kernel
theorem dX10_why_33 : decode cX10_why 33 = .ok (.getfield 258, 3) := by decide +kernel
theorem dX10_why_36 : decode cX10_why 36 = .ok (.ireturn, 1) := by decide +kernel
set_option maxRecDepth 100000 in
theorem c_W_why (τ : XS) (p0 : Int32) (p1 : Int32) (p2 : Int32) (p3 : Int32) : Ct z (wX z σ) rI eqA yX10_why cX10_why 6 (some .int) 8 0 0 [.ref 36, .int p0, .int p1, .int p2, .int p3] τ (W_why τ p0 p1 p2 p3) := by
  refine Ct.of (by decide) (Nat.le_of_ble_eq_true rfl) (fun ad x hC hR _ => ?_)
  show AT z x 6 (wX z σ) rI (eqA ad) 0 0 0 0 ad 0 [(0, .ref 36), (1, .int p0), (2, .int p1), (3, .int p2), (4, .int p3)] [] τ (W_why τ p0 p1 p2 p3)
  unfold W_why
  refine at_aload_n (j := 0) hC rfl rfl dX10_why_0 ?_
  refine at_iload_n (j := 1) hC rfl rfl dX10_why_1 ?_
  refine at_iload_n (j := 2) hC rfl rfl dX10_why_2 ?_
  refine at_iload_n (j := 3) hC rfl rfl dX10_why_3 ?_
  refine at_iload (j := 4) hC rfl dX10_why_4 ?_
  refine at_callVI hC hR lk_X10_252 (c_W_refuseRule τ p0 p1 p2 p3) dX10_why_6 recX10 rfl rfl ⟨by decide, by decide⟩ (Nat.le_of_ble_eq_true rfl) ⟨Nat.le_refl 0, Nat.le_refl 0⟩ (fun r1 r1s _ => ?_)
  refine at_istore (lv' := [(5, .int r1), (0, .ref 36), (1, .int p0), (2, .int p1), (3, .int p2), (4, .int p3)]) hC dX10_why_9 (by decide) rfl ?_
  refine at_iload (j := 0) hC rfl dX10_why_11 ?_
  refine at_if_ge (tgt := 19) hC dX10_why_13 rfl (fun _ => ?_) (fun _ => ?_)
  · refine at_aload_n (j := 1) hC rfl rfl dX10_why_19 ?_
    refine gf_X10_37 hC dX10_why_20 ?_
    refine at_iload_n (j := 2) hC rfl rfl dX10_why_23 ?_
    refine at_iload_n (j := 4) hC rfl rfl dX10_why_24 ?_
    refine at_callVI hC hR lk_X10_255 (c_Lw_ruling r1s p0 p2) dX10_why_25 recX3 rfl rfl ⟨by decide, by decide⟩ (Nat.le_of_ble_eq_true rfl) ⟨Nat.le_refl 0, Nat.le_refl 0⟩ (fun r2 r2s _ => ?_)
    refine at_pop hC rfl dX10_why_28 ?_
    refine at_aload_n (j := 1) hC rfl rfl dX10_why_29 ?_
    refine gf_X10_37 hC dX10_why_30 ?_
    refine gf_X10_258 hC dX10_why_33 ?_
    exact at_iret (F := eqA ad) (ra := rI) hC dX10_why_36 rfl (Nat.le_refl 0) (Nat.le_refl 0) rfl
  · refine at_iload (j := 0) hC rfl dX10_why_16 ?_
    exact at_iret (F := eqA ad) (ra := rI) hC dX10_why_18 rfl (Nat.le_refl 0) (Nat.le_refl 0) rfl
theorem dX10_quarrel_0 : decode cX10_quarrel 0 = .ok (.aload_n 0, 1) := by decide +kernel
theorem dX10_quarrel_1 : decode cX10_quarrel 1 = .ok (.iload_n 1, 1) := by decide +kernel
theorem dX10_quarrel_2 : decode cX10_quarrel 2 = .ok (.iload_n 2, 1) := by decide +kernel
theorem dX10_quarrel_3 : decode cX10_quarrel 3 = .ok (.iload_n 3, 1) := by decide +kernel
theorem dX10_quarrel_4 : decode cX10_quarrel 4 = .ok (.iload 4, 2) := by decide +kernel
theorem dX10_quarrel_6 : decode cX10_quarrel 6 = .ok (.invokevirtual 252, 3) := by decide +kernel
theorem dX10_quarrel_9 : decode cX10_quarrel 9 = .ok (.istore 5, 2) := by decide +kernel
theorem dX10_quarrel_11 : decode cX10_quarrel 11 = .ok (.iload 5, 2) := by decide +kernel
theorem dX10_quarrel_13 : decode cX10_quarrel 13 = .ok (.ifCond .ge 6, 3) := by decide +kernel
theorem dX10_quarrel_16 : decode cX10_quarrel 16 = .ok (.iload 5, 2) := by decide +kernel
theorem dX10_quarrel_18 : decode cX10_quarrel 18 = .ok (.ireturn, 1) := by decide +kernel
theorem dX10_quarrel_19 : decode cX10_quarrel 19 = .ok (.aload_n 0, 1) := by decide +kernel
theorem dX10_quarrel_20 : decode cX10_quarrel 20 = .ok (.getfield 37, 3) := by decide +kernel
theorem dX10_quarrel_23 : decode cX10_quarrel 23 = .ok (.iload_n 1, 1) := by decide +kernel
theorem dX10_quarrel_24 : decode cX10_quarrel 24 = .ok (.iload_n 3, 1) := by decide +kernel
theorem dX10_quarrel_25 : decode cX10_quarrel 25 = .ok (.invokevirtual 255, 3) := by decide +kernel
theorem dX10_quarrel_28 : decode cX10_quarrel 28 = .ok (.pop, 1) := by decide +kernel
theorem dX10_quarrel_29 : decode cX10_quarrel 29 = .ok (.aload_n 0, 1) := by decide +kernel
theorem dX10_quarrel_30 : decode cX10_quarrel 30 = .ok (.getfield 37, 3) := by decide +kernel
theorem dX10_quarrel_33 : decode cX10_quarrel 33 = .ok (.iload_n 1, 1) := by decide +kernel
theorem dX10_quarrel_34 : decode cX10_quarrel 34 = .ok (.iload_n 3, 1) := by decide +kernel
theorem dX10_quarrel_35 : decode cX10_quarrel 35 = .ok (.invokevirtual 261, 3) := by decide +kernel
theorem dX10_quarrel_38 : decode cX10_quarrel 38 = .ok (.ireturn, 1) := by decide +kernel
set_option maxRecDepth 100000 in
theorem c_W_quarrel (τ : XS) (p0 : Int32) (p1 : Int32) (p2 : Int32) (p3 : Int32) : Ct z (wX z σ) rI eqA yX10_quarrel cX10_quarrel 6 (some .int) 8 0 0 [.ref 36, .int p0, .int p1, .int p2, .int p3] τ (W_quarrel τ p0 p1 p2 p3) := by
  refine Ct.of (by decide) (Nat.le_of_ble_eq_true rfl) (fun ad x hC hR _ => ?_)
  show AT z x 6 (wX z σ) rI (eqA ad) 0 0 0 0 ad 0 [(0, .ref 36), (1, .int p0), (2, .int p1), (3, .int p2), (4, .int p3)] [] τ (W_quarrel τ p0 p1 p2 p3)
  unfold W_quarrel
  refine at_aload_n (j := 0) hC rfl rfl dX10_quarrel_0 ?_
  refine at_iload_n (j := 1) hC rfl rfl dX10_quarrel_1 ?_
  refine at_iload_n (j := 2) hC rfl rfl dX10_quarrel_2 ?_
  refine at_iload_n (j := 3) hC rfl rfl dX10_quarrel_3 ?_
  refine at_iload (j := 4) hC rfl dX10_quarrel_4 ?_
  refine at_callVI hC hR lk_X10_252 (c_W_refuseRule τ p0 p1 p2 p3) dX10_quarrel_6 recX10 rfl rfl ⟨by decide, by decide⟩ (Nat.le_of_ble_eq_true rfl) ⟨Nat.le_refl 0, Nat.le_refl 0⟩ (fun r1 r1s _ => ?_)
  refine at_istore (lv' := [(5, .int r1), (0, .ref 36), (1, .int p0), (2, .int p1), (3, .int p2), (4, .int p3)]) hC dX10_quarrel_9 (by decide) rfl ?_
  refine at_iload (j := 0) hC rfl dX10_quarrel_11 ?_
  refine at_if_ge (tgt := 19) hC dX10_quarrel_13 rfl (fun _ => ?_) (fun _ => ?_)
  · refine at_aload_n (j := 1) hC rfl rfl dX10_quarrel_19 ?_
    refine gf_X10_37 hC dX10_quarrel_20 ?_
    refine at_iload_n (j := 2) hC rfl rfl dX10_quarrel_23 ?_
    refine at_iload_n (j := 4) hC rfl rfl dX10_quarrel_24 ?_
    refine at_callVI hC hR lk_X10_255 (c_Lw_ruling r1s p0 p2) dX10_quarrel_25 recX3 rfl rfl ⟨by decide, by decide⟩ (Nat.le_of_ble_eq_true rfl) ⟨Nat.le_refl 0, Nat.le_refl 0⟩ (fun r2 r2s _ => ?_)
    refine at_pop hC rfl dX10_quarrel_28 ?_
    refine at_aload_n (j := 1) hC rfl rfl dX10_quarrel_29 ?_
    refine gf_X10_37 hC dX10_quarrel_30 ?_
    refine at_iload_n (j := 2) hC rfl rfl dX10_quarrel_33 ?_
    refine at_iload_n (j := 4) hC rfl rfl dX10_quarrel_34 ?_
    refine at_callVI hC hR lk_X10_261 (c_Lw_otherClause r2s p0 p2) dX10_quarrel_35 recX3 rfl rfl ⟨by decide, by decide⟩ (Nat.le_of_ble_eq_true rfl) ⟨Nat.le_refl 0, Nat.le_refl 0⟩ (fun r3 r3s _ => ?_)
    exact at_iret (F := eqA ad) (ra := rI) hC dX10_quarrel_38 rfl (Nat.le_refl 0) (Nat.le_refl 0) rfl
  · refine at_iload (j := 0) hC rfl dX10_quarrel_16 ?_
    exact at_iret (F := eqA ad) (ra := rI) hC dX10_quarrel_18 rfl (Nat.le_refl 0) (Nat.le_refl 0) rfl
theorem dX10_isYear_0 : decode cX10_isYear 0 = .ok (.iload_n 0, 1) := by decide +kernel
theorem dX10_isYear_1 : decode cX10_isYear 1 = .ok (.ifCond .lt 13, 3) := by decide +kernel
theorem dX10_isYear_4 : decode cX10_isYear 4 = .ok (.iload_n 0, 1) := by decide +kernel
theorem dX10_isYear_5 : decode cX10_isYear 5 = .ok (.bipush 100, 2) := by decide +kernel
theorem dX10_isYear_7 : decode cX10_isYear 7 = .ok (.if_icmp .ge 7, 3) := by decide +kernel
theorem dX10_isYear_10 : decode cX10_isYear 10 = .ok (.iconst 1, 1) := by decide +kernel
theorem dX10_isYear_11 : decode cX10_isYear 11 = .ok (.goto 4, 3) := by decide +kernel
theorem dX10_isYear_14 : decode cX10_isYear 14 = .ok (.iconst 0, 1) := by decide +kernel
theorem dX10_isYear_15 : decode cX10_isYear 15 = .ok (.ireturn, 1) := by decide +kernel
set_option maxRecDepth 100000 in
theorem c_W_isYear (τ : XS) (p0 : Int32) : Ct z (wX z σ) rI eqA yX10_isYear cX10_isYear 1 (some .boolean) 1 0 0 [.int p0] τ ((W_isYear τ p0).map fun r => (r, τ)) := by
  refine Ct.of (by decide) (Nat.le_of_ble_eq_true rfl) (fun ad x hC hR _ => ?_)
  show AT z x 1 (wX z σ) rI (eqA ad) 0 0 0 0 ad 0 [(0, .int p0)] [] τ ((W_isYear τ p0).map fun r => (r, τ))
  unfold W_isYear
  refine at_iload_n (j := 0) hC rfl rfl dX10_isYear_0 ?_
  refine ap_if_lt (tgt := 14) hC dX10_isYear_1 rfl (fun _ => ?_) (fun _ => ?_)
  · refine at_iconst hC ic_0 dX10_isYear_14 ?_
    exact at_zret (F := eqA ad) (ra := rI) hC nb0 dX10_isYear_15 rfl (Nat.le_refl 0) (Nat.le_refl 0) rfl
  · refine at_iload_n (j := 0) hC rfl rfl dX10_isYear_4 ?_
    refine at_bipush hC bi_100 dX10_isYear_5 ?_
    refine ap_icmp_ge (tgt := 14) hC dX10_isYear_7 rfl (fun _ => ?_) (fun _ => ?_)
    · refine at_iconst hC ic_0 dX10_isYear_14 ?_
      exact at_zret (F := eqA ad) (ra := rI) hC nb0 dX10_isYear_15 rfl (Nat.le_refl 0) (Nat.le_refl 0) rfl
    · refine at_iconst hC ic_1 dX10_isYear_10 ?_
      refine at_goto (tgt := 15) hC dX10_isYear_11 rfl ?_
      exact at_zret (F := eqA ad) (ra := rI) hC nb1 dX10_isYear_15 rfl (Nat.le_refl 0) (Nat.le_refl 0) rfl
theorem dX10_owe_0 : decode cX10_owe 0 = .ok (.aload_n 0, 1) := by decide +kernel
theorem dX10_owe_1 : decode cX10_owe 1 = .ok (.getfield 14, 3) := by decide +kernel
theorem dX10_owe_4 : decode cX10_owe 4 = .ok (.iload_n 1, 1) := by decide +kernel
theorem dX10_owe_5 : decode cX10_owe 5 = .ok (.invokevirtual 86, 3) := by decide +kernel
theorem dX10_owe_8 : decode cX10_owe 8 = .ok (.ifCond .eq 21, 3) := by decide +kernel
theorem dX10_owe_11 : decode cX10_owe 11 = .ok (.iload_n 2, 1) := by decide +kernel
theorem dX10_owe_12 : decode cX10_owe 12 = .ok (.invokestatic 271, 3) := by decide +kernel
theorem dX10_owe_15 : decode cX10_owe 15 = .ok (.ifCond .eq 14, 3) := by decide +kernel
theorem dX10_owe_18 : decode cX10_owe 18 = .ok (.aload_n 0, 1) := by decide +kernel
theorem dX10_owe_19 : decode cX10_owe 19 = .ok (.getfield 14, 3) := by decide +kernel
theorem dX10_owe_22 : decode cX10_owe 22 = .ok (.iload_n 3, 1) := by decide +kernel
theorem dX10_owe_23 : decode cX10_owe 23 = .ok (.invokevirtual 171, 3) := by decide +kernel
theorem dX10_owe_26 : decode cX10_owe 26 = .ok (.ifCond .ne 7, 3) := by decide +kernel
theorem dX10_owe_29 : decode cX10_owe 29 = .ok (.ldc2_w 274, 3) := by decide +kernel
theorem dX10_owe_32 : decode cX10_owe 32 = .ok (.lreturn, 1) := by decide +kernel
theorem dX10_owe_33 : decode cX10_owe 33 = .ok (.aload_n 0, 1) := by decide +kernel
theorem dX10_owe_34 : decode cX10_owe 34 = .ok (.getfield 23, 3) := by decide +kernel
theorem dX10_owe_37 : decode cX10_owe 37 = .ok (.iload_n 3, 1) := by decide +kernel
theorem dX10_owe_38 : decode cX10_owe 38 = .ok (.invokevirtual 119, 3) := by decide +kernel
theorem dX10_owe_41 : decode cX10_owe 41 = .ok (.iload 4, 2) := by decide +kernel
theorem dX10_owe_43 : decode cX10_owe 43 = .ok (.tableswitch 69 0 3 #[29, 39, 49, 59], 29) := by decide +kernel
theorem dX10_owe_72 : decode cX10_owe 72 = .ok (.aload_n 0, 1) := by decide +kernel
theorem dX10_owe_73 : decode cX10_owe 73 = .ok (.getfield 67, 3) := by decide +kernel
theorem dX10_owe_76 : decode cX10_owe 76 = .ok (.iload_n 1, 1) := by decide +kernel
theorem dX10_owe_77 : decode cX10_owe 77 = .ok (.iload_n 2, 1) := by decide +kernel
theorem dX10_owe_78 : decode cX10_owe 78 = .ok (.invokevirtual 276, 3) := by decide +kernel
theorem dX10_owe_81 : decode cX10_owe 81 = .ok (.lreturn, 1) := by decide +kernel
theorem dX10_owe_82 : decode cX10_owe 82 = .ok (.aload_n 0, 1) := by decide +kernel
theorem dX10_owe_83 : decode cX10_owe 83 = .ok (.getfield 67, 3) := by decide +kernel
theorem dX10_owe_86 : decode cX10_owe 86 = .ok (.iload_n 1, 1) := by decide +kernel
theorem dX10_owe_87 : decode cX10_owe 87 = .ok (.iload_n 2, 1) := by decide +kernel
theorem dX10_owe_88 : decode cX10_owe 88 = .ok (.invokevirtual 280, 3) := by decide +kernel
theorem dX10_owe_91 : decode cX10_owe 91 = .ok (.lreturn, 1) := by decide +kernel
theorem dX10_owe_92 : decode cX10_owe 92 = .ok (.aload_n 0, 1) := by decide +kernel
theorem dX10_owe_93 : decode cX10_owe 93 = .ok (.getfield 67, 3) := by decide +kernel
theorem dX10_owe_96 : decode cX10_owe 96 = .ok (.iload_n 1, 1) := by decide +kernel
theorem dX10_owe_97 : decode cX10_owe 97 = .ok (.iload_n 2, 1) := by decide +kernel
theorem dX10_owe_98 : decode cX10_owe 98 = .ok (.invokevirtual 283, 3) := by decide +kernel
theorem dX10_owe_101 : decode cX10_owe 101 = .ok (.lreturn, 1) := by decide +kernel
theorem dX10_owe_102 : decode cX10_owe 102 = .ok (.aload_n 0, 1) := by decide +kernel
theorem dX10_owe_103 : decode cX10_owe 103 = .ok (.getfield 23, 3) := by decide +kernel
theorem dX10_owe_106 : decode cX10_owe 106 = .ok (.iload_n 1, 1) := by decide +kernel
theorem dX10_owe_107 : decode cX10_owe 107 = .ok (.iload_n 2, 1) := by decide +kernel
theorem dX10_owe_108 : decode cX10_owe 108 = .ok (.invokevirtual 286, 3) := by decide +kernel
theorem dX10_owe_111 : decode cX10_owe 111 = .ok (.lreturn, 1) := by decide +kernel
theorem dX10_owe_112 : decode cX10_owe 112 = .ok (.ldc2_w 274, 3) := by decide +kernel
theorem dX10_owe_115 : decode cX10_owe 115 = .ok (.lreturn, 1) := by decide +kernel
set_option maxRecDepth 100000 in
theorem c_W_owe (τ : XS) (p0 : Int32) (p1 : Int32) (p2 : Int32) (p3 : Int32) : Ct z (wX z σ) rJ eqA yX10_owe cX10_owe 5 (some .long) 10 0 0 [.ref 36, .int p0, .int p1, .int p2, .int p3] τ (W_owe τ p0 p1 p2 p3) := by
  refine Ct.of (by decide) (Nat.le_of_ble_eq_true rfl) (fun ad x hC hR _ => ?_)
  show AT z x 5 (wX z σ) rJ (eqA ad) 0 0 0 0 ad 0 [(0, .ref 36), (1, .int p0), (2, .int p1), (3, .int p2), (4, .int p3)] [] τ (W_owe τ p0 p1 p2 p3)
  unfold W_owe
  refine at_aload_n (j := 0) hC rfl rfl dX10_owe_0 ?_
  refine gf_X10_14 hC dX10_owe_1 ?_
  refine at_iload_n (j := 1) hC rfl rfl dX10_owe_4 ?_
  refine at_callVpI hC hR lk_X10_86 (c_Bk_isMan τ p0) dX10_owe_5 recX1 rfl rfl ⟨by decide, by decide⟩ (Nat.le_of_ble_eq_true rfl) ⟨Nat.le_refl 0, Nat.le_refl 0⟩ (fun r1 _ => ?_)
  refine at_if_eq (tgt := 29) hC dX10_owe_8 rfl (fun _ => ?_) (fun _ => ?_)
  · refine at_ldc2 hC kl_X10_274 dX10_owe_29 ?_
    exact at_lret (F := eqA ad) (ra := rJ) hC dX10_owe_32 rfl (Nat.le_refl 0) (Nat.le_refl 0) rfl
  · refine at_iload_n (j := 2) hC rfl rfl dX10_owe_11 ?_
    refine at_callSpI hC hR lk_X10_271 (c_W_isYear τ p1) dX10_owe_12 rfl rfl ⟨by decide, by decide⟩ (Nat.le_of_ble_eq_true rfl) ⟨Nat.le_refl 0, Nat.le_refl 0⟩ (fun r2 _ => ?_)
    refine at_if_eq (tgt := 29) hC dX10_owe_15 rfl (fun _ => ?_) (fun _ => ?_)
    · refine at_ldc2 hC kl_X10_274 dX10_owe_29 ?_
      exact at_lret (F := eqA ad) (ra := rJ) hC dX10_owe_32 rfl (Nat.le_refl 0) (Nat.le_refl 0) rfl
    · refine at_aload_n (j := 0) hC rfl rfl dX10_owe_18 ?_
      refine gf_X10_14 hC dX10_owe_19 ?_
      refine at_iload_n (j := 3) hC rfl rfl dX10_owe_22 ?_
      refine at_callVpI hC hR lk_X10_171 (c_Bk_isReach τ p2) dX10_owe_23 recX1 rfl rfl ⟨by decide, by decide⟩ (Nat.le_of_ble_eq_true rfl) ⟨Nat.le_refl 0, Nat.le_refl 0⟩ (fun r3 _ => ?_)
      refine at_if_ne (tgt := 33) hC dX10_owe_26 rfl (fun _ => ?_) (fun _ => ?_)
      · refine at_aload_n (j := 0) hC rfl rfl dX10_owe_33 ?_
        refine gf_X10_23 hC dX10_owe_34 ?_
        refine at_iload_n (j := 3) hC rfl rfl dX10_owe_37 ?_
        refine at_callVU hC hR lk_X10_119 (c_Lv_readBook τ p2) dX10_owe_38 recX4 rfl rfl ⟨by decide, by decide⟩ (Nat.le_of_ble_eq_true rfl) ⟨Nat.le_refl 0, Nat.le_refl 0⟩ (fun r4 r4s _ => ?_)
        refine at_iload (j := 4) hC rfl dX10_owe_41 ?_
        refine at_sw (off := 29) (tgt := 72) (v := 0) hC 0 dX10_owe_43 rfl rfl (by decide) (by decide) swp0 ?_ (fun hp0 => ?_)
        · refine at_aload_n (j := 0) hC rfl rfl dX10_owe_72 ?_
          refine gf_X10_67 hC dX10_owe_73 ?_
          refine at_iload_n (j := 1) hC rfl rfl dX10_owe_76 ?_
          refine at_iload_n (j := 2) hC rfl rfl dX10_owe_77 ?_
          refine at_callVJ hC hR lk_X10_276 (c_Cn_duesOf r4s p0 p1) dX10_owe_78 recX2 rfl rfl ⟨by decide, by decide⟩ (Nat.le_of_ble_eq_true rfl) ⟨Nat.le_refl 0, Nat.le_refl 0⟩ (fun r5 r5s _ => ?_)
          exact at_lret (F := eqA ad) (ra := rJ) hC dX10_owe_81 rfl (Nat.le_refl 0) (Nat.le_refl 0) rfl
        refine at_sw (off := 39) (tgt := 82) (v := 1) hC 1 dX10_owe_43 rfl rfl (by decide) (by decide) hp0 ?_ (fun hp1 => ?_)
        · refine at_aload_n (j := 0) hC rfl rfl dX10_owe_82 ?_
          refine gf_X10_67 hC dX10_owe_83 ?_
          refine at_iload_n (j := 1) hC rfl rfl dX10_owe_86 ?_
          refine at_iload_n (j := 2) hC rfl rfl dX10_owe_87 ?_
          refine at_callVJ hC hR lk_X10_280 (c_Cn_taxOf r4s p0 p1) dX10_owe_88 recX2 rfl rfl ⟨by decide, by decide⟩ (Nat.le_of_ble_eq_true rfl) ⟨Nat.le_refl 0, Nat.le_refl 0⟩ (fun r6 r6s _ => ?_)
          exact at_lret (F := eqA ad) (ra := rJ) hC dX10_owe_91 rfl (Nat.le_refl 0) (Nat.le_refl 0) rfl
        refine at_sw (off := 49) (tgt := 92) (v := 2) hC 2 dX10_owe_43 rfl rfl (by decide) (by decide) hp1 ?_ (fun hp2 => ?_)
        · refine at_aload_n (j := 0) hC rfl rfl dX10_owe_92 ?_
          refine gf_X10_67 hC dX10_owe_93 ?_
          refine at_iload_n (j := 1) hC rfl rfl dX10_owe_96 ?_
          refine at_iload_n (j := 2) hC rfl rfl dX10_owe_97 ?_
          refine at_callVJ hC hR lk_X10_283 (c_Cn_arrearsOf r4s p0 p1) dX10_owe_98 recX2 rfl rfl ⟨by decide, by decide⟩ (Nat.le_of_ble_eq_true rfl) ⟨Nat.le_refl 0, Nat.le_refl 0⟩ (fun r7 r7s _ => ?_)
          exact at_lret (F := eqA ad) (ra := rJ) hC dX10_owe_101 rfl (Nat.le_refl 0) (Nat.le_refl 0) rfl
        refine at_sw (off := 59) (tgt := 102) (v := 3) hC 3 dX10_owe_43 rfl rfl (by decide) (by decide) hp2 ?_ (fun hp3 => ?_)
        · refine at_aload_n (j := 0) hC rfl rfl dX10_owe_102 ?_
          refine gf_X10_23 hC dX10_owe_103 ?_
          refine at_iload_n (j := 1) hC rfl rfl dX10_owe_106 ?_
          refine at_iload_n (j := 2) hC rfl rfl dX10_owe_107 ?_
          refine at_callVpJ hC hR lk_X10_286 (c_Lv_paidIn r4s p0 p1) dX10_owe_108 recX4 rfl rfl ⟨by decide, by decide⟩ (Nat.le_of_ble_eq_true rfl) ⟨Nat.le_refl 0, Nat.le_refl 0⟩ (fun r8 _ => ?_)
          exact at_lret (F := eqA ad) (ra := rJ) hC dX10_owe_111 rfl (Nat.le_refl 0) (Nat.le_refl 0) rfl
        refine at_swd (tgt := 112) hC 4 dX10_owe_43 rfl (by decide) hp3 ?_
        refine at_ldc2 hC kl_X10_274 dX10_owe_112 ?_
        exact at_lret (F := eqA ad) (ra := rJ) hC dX10_owe_115 rfl (Nat.le_refl 0) (Nat.le_refl 0) rfl
      · refine at_ldc2 hC kl_X10_274 dX10_owe_29 ?_
        exact at_lret (F := eqA ad) (ra := rJ) hC dX10_owe_32 rfl (Nat.le_refl 0) (Nat.le_refl 0) rfl
end G
