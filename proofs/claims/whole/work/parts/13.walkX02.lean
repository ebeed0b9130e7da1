section G
variable {z : ZZ} {x : XX} {ad : Nat → Nat} {σ : MS}
theorem dX1_isSo_0 : decode cX1_isSo 0 = .ok (.iload_n 1, 1) := by decide +kernel
theorem dX1_isSo_1 : decode cX1_isSo 1 = .ok (.iload_n 2, 1) := by decide +kernel
theorem dX1_isSo_2 : decode cX1_isSo 2 = .ok (.if_icmp .ge 28, 3) := by decide +kernel
theorem dX1_isSo_5 : decode cX1_isSo 5 = .ok (.aload_n 0, 1) := by decide +kernel
theorem dX1_isSo_6 : decode cX1_isSo 6 = .ok (.getfield 24, 3) := by decide +kernel
theorem dX1_isSo_9 : decode cX1_isSo 9 = .ok (.iload_n 1, 1) := by decide +kernel
theorem dX1_isSo_10 : decode cX1_isSo 10 = .ok (.iaload, 1) := by decide +kernel
theorem dX1_isSo_11 : decode cX1_isSo 11 = .ok (.bipush 7, 2) := by decide +kernel
theorem dX1_isSo_13 : decode cX1_isSo 13 = .ok (.if_icmp .eq 17, 3) := by decide +kernel
theorem dX1_isSo_16 : decode cX1_isSo 16 = .ok (.aload_n 0, 1) := by decide +kernel
theorem dX1_isSo_17 : decode cX1_isSo 17 = .ok (.getfield 39, 3) := by decide +kernel
theorem dX1_isSo_20 : decode cX1_isSo 20 = .ok (.iload_n 1, 1) := by decide +kernel
theorem dX1_isSo_21 : decode cX1_isSo 21 = .ok (.iaload, 1) := by decide +kernel
theorem dX1_isSo_22 : decode cX1_isSo 22 = .ok (.iload_n 2, 1) := by decide +kernel
theorem dX1_isSo_23 : decode cX1_isSo 23 = .ok (.if_icmp .lt 7, 3) := by decide +kernel
theorem dX1_isSo_26 : decode cX1_isSo 26 = .ok (.iconst 1, 1) := by decide +kernel
theorem dX1_isSo_27 : decode cX1_isSo 27 = .ok (.goto 4, 3) := by decide +kernel
theorem dX1_isSo_30 : decode cX1_isSo 30 = .ok (.iconst 0, 1) := by decide +kernel
theorem dX1_isSo_31 : decode cX1_isSo 31 = .ok (.ireturn, 1) := by decide +kernel
set_option maxRecDepth 100000 in
theorem c_Bk_isSo (τ : XS) (p0 : Int32) (p1 : Int32) : Ct z (wX z σ) rI eqA yX1_isSo cX1_isSo 3 (some .boolean) 1 0 0 [.ref 37, .int p0, .int p1] τ ((Bk_isSo τ p0 p1).map fun r => (r, τ)) := by
  refine Ct.of (by decide) (Nat.le_of_ble_eq_true rfl) (fun ad x hC hR _ => ?_)
  show AT z x 3 (wX z σ) rI (eqA ad) 0 0 0 0 ad 0 [(0, .ref 37), (1, .int p0), (2, .int p1)] [] τ ((Bk_isSo τ p0 p1).map fun r => (r, τ))
  unfold Bk_isSo
  refine at_iload_n (j := 1) hC rfl rfl dX1_isSo_0 ?_
  refine at_iload_n (j := 2) hC rfl rfl dX1_isSo_1 ?_
  refine ap_icmp_ge (tgt := 30) hC dX1_isSo_2 rfl (fun _ => ?_) (fun _ => ?_)
  · refine at_iconst hC ic_0 dX1_isSo_30 ?_
    exact at_zret (F := eqA ad) (ra := rI) hC nb0 dX1_isSo_31 rfl (Nat.le_refl 0) (Nat.le_refl 0) rfl
  · refine at_aload_n (j := 0) hC rfl rfl dX1_isSo_5 ?_
    refine gf_X1_24 hC dX1_isSo_6 ?_
    refine at_iload_n (j := 1) hC rfl rfl dX1_isSo_9 ?_
    refine ap_iald hC 42 dX1_isSo_10 cl_42 (fun v1 => ?_)
    refine at_bipush hC bi_7 dX1_isSo_11 ?_
    refine ap_icmp_eq (tgt := 30) hC dX1_isSo_13 rfl (fun _ => ?_) (fun _ => ?_)
    · refine at_iconst hC ic_0 dX1_isSo_30 ?_
      exact at_zret (F := eqA ad) (ra := rI) hC nb0 dX1_isSo_31 rfl (Nat.le_refl 0) (Nat.le_refl 0) rfl
    · refine at_aload_n (j := 0) hC rfl rfl dX1_isSo_16 ?_
      refine gf_X1_39 hC dX1_isSo_17 ?_
      refine at_iload_n (j := 1) hC rfl rfl dX1_isSo_20 ?_
      refine ap_iald hC 47 dX1_isSo_21 cl_47 (fun v2 => ?_)
      refine at_iload_n (j := 2) hC rfl rfl dX1_isSo_22 ?_
      refine ap_icmp_lt (tgt := 30) hC dX1_isSo_23 rfl (fun _ => ?_) (fun _ => ?_)
      · refine at_iconst hC ic_0 dX1_isSo_30 ?_
        exact at_zret (F := eqA ad) (ra := rI) hC nb0 dX1_isSo_31 rfl (Nat.le_refl 0) (Nat.le_refl 0) rfl
      · refine at_iconst hC ic_1 dX1_isSo_26 ?_
        refine at_goto (tgt := 31) hC dX1_isSo_27 rfl ?_
        exact at_zret (F := eqA ad) (ra := rI) hC nb1 dX1_isSo_31 rfl (Nat.le_refl 0) (Nat.le_refl 0) rfl
theorem dX4_listFor_0 : decode cX4_listFor 0 = .ok (.aload_n 0, 1) := by decide +kernel
theorem dX4_listFor_1 : decode cX4_listFor 1 = .ok (.getfield 18, 3) := by decide +kernel
theorem dX4_listFor_4 : decode cX4_listFor 4 = .ok (.iload_n 1, 1) := by decide +kernel
theorem dX4_listFor_5 : decode cX4_listFor 5 = .ok (.iaload, 1) := by decide +kernel
theorem dX4_listFor_6 : decode cX4_listFor 6 = .ok (.aload_n 0, 1) := by decide +kernel
theorem dX4_listFor_7 : decode cX4_listFor 7 = .ok (.getfield 21, 3) := by decide +kernel
theorem dX4_listFor_10 : decode cX4_listFor 10 = .ok (.arraylength, 1) := by decide +kernel
theorem dX4_listFor_11 : decode cX4_listFor 11 = .ok (.if_icmp .ge 20, 3) := by decide +kernel
theorem dX4_listFor_14 : decode cX4_listFor 14 = .ok (.aload_n 0, 1) := by decide +kernel
theorem dX4_listFor_15 : decode cX4_listFor 15 = .ok (.getfield 21, 3) := by decide +kernel
theorem dX4_listFor_18 : decode cX4_listFor 18 = .ok (.aload_n 0, 1) := by decide +kernel
theorem dX4_listFor_19 : decode cX4_listFor 19 = .ok (.getfield 18, 3) := by decide +kernel
theorem dX4_listFor_22 : decode cX4_listFor 22 = .ok (.iload_n 1, 1) := by decide +kernel
theorem dX4_listFor_23 : decode cX4_listFor 23 = .ok (.dup2, 1) := by decide +kernel
theorem dX4_listFor_24 : decode cX4_listFor 24 = .ok (.iaload, 1) := by decide +kernel
theorem dX4_listFor_25 : decode cX4_listFor 25 = .ok (.dup_x2, 1) := by decide +kernel
theorem dX4_listFor_26 : decode cX4_listFor 26 = .ok (.iconst 1, 1) := by decide +kernel
theorem dX4_listFor_27 : decode cX4_listFor 27 = .ok (.iadd, 1) := by decide +kernel
theorem dX4_listFor_28 : decode cX4_listFor 28 = .ok (.iastore, 1) := by decide +kernel
theorem dX4_listFor_29 : decode cX4_listFor 29 = .ok (.iload_n 2, 1) := by decide +kernel
theorem dX4_listFor_30 : decode cX4_listFor 30 = .ok (.iastore, 1) := by decide +kernel
theorem dX4_listFor_31 : decode cX4_listFor 31 = .ok (.return_, 1) := by decide +kernel
set_option maxRecDepth 100000 in
theorem c_Lv_listFor (τ : XS) (p0 : Int32) (p1 : Int32) : Ct z (wX z σ) rU eqA yX4_listFor cX4_listFor 3 none 1 0 0 [.ref 49, .int p0, .int p1] τ (Lv_listFor τ p0 p1) := by
  refine Ct.of (by decide) (Nat.le_of_ble_eq_true rfl) (fun ad x hC hR _ => ?_)
  show AT z x 3 (wX z σ) rU (eqA ad) 0 0 0 0 ad 0 [(0, .ref 49), (1, .int p0), (2, .int p1)] [] τ (Lv_listFor τ p0 p1)
  unfold Lv_listFor
  refine at_aload_n (j := 0) hC rfl rfl dX4_listFor_0 ?_
  refine gf_X4_18 hC dX4_listFor_1 ?_
  refine at_iload_n (j := 1) hC rfl rfl dX4_listFor_4 ?_
  refine at_iald hC 52 dX4_listFor_5 cl_52 (fun v1 => ?_)
  refine at_aload_n (j := 0) hC rfl rfl dX4_listFor_6 ?_
  refine gf_X4_21 hC dX4_listFor_7 ?_
  refine at_alen (v := 400) (ty := .int) hC 53 0 dX4_listFor_10 cl_53 rfl rfl ?_
  refine at_icmp_ge (tgt := 31) hC dX4_listFor_11 rfl (fun _ => ?_) (fun _ => ?_)
  · exact at_vret (F := eqA ad) (ra := rU) hC dX4_listFor_31 rfl (Nat.le_refl 0) (Nat.le_refl 0) rfl
  · refine at_aload_n (j := 0) hC rfl rfl dX4_listFor_14 ?_
    refine gf_X4_21 hC dX4_listFor_15 ?_
    refine at_aload_n (j := 0) hC rfl rfl dX4_listFor_18 ?_
    refine gf_X4_18 hC dX4_listFor_19 ?_
    refine at_iload_n (j := 1) hC rfl rfl dX4_listFor_22 ?_
    refine at_dup2 hC rfl rfl dX4_listFor_23 ?_
    refine at_iald hC 52 dX4_listFor_24 cl_52 (fun v2 => ?_)
    refine at_dup_x2 hC rfl rfl rfl dX4_listFor_25 ?_
    refine at_iconst hC ic_1 dX4_listFor_26 ?_
    refine at_iadd hC dX4_listFor_27 ?_
    refine at_iast hC 52 dX4_listFor_28 cl_52 st_52 ?_
    refine at_iload_n (j := 2) hC rfl rfl dX4_listFor_29 ?_
    refine at_iast hC 53 dX4_listFor_30 cl_53 st_53 ?_
    exact at_vret (F := eqA ad) (ra := rU) hC dX4_listFor_31 rfl (Nat.le_refl 0) (Nat.le_refl 0) rfl
theorem dX4_readBook_0 : decode cX4_readBook 0 = .ok (.iload_n 1, 1) := by decide +kernel
theorem dX4_readBook_1 : decode cX4_readBook 1 = .ok (.ifCond .lt 14, 3) := by decide +kernel
theorem dX4_readBook_4 : decode cX4_readBook 4 = .ok (.iload_n 1, 1) := by decide +kernel
theorem dX4_readBook_5 : decode cX4_readBook 5 = .ok (.aload_n 0, 1) := by decide +kernel
theorem dX4_readBook_6 : decode cX4_readBook 6 = .ok (.getfield 24, 3) := by decide +kernel
theorem dX4_readBook_9 : decode cX4_readBook 9 = .ok (.getfield 28, 3) := by decide +kernel
theorem dX4_readBook_12 : decode cX4_readBook 12 = .ok (.if_icmp .le 13, 3) := by decide +kernel
theorem dX4_readBook_15 : decode cX4_readBook 15 = .ok (.aload_n 0, 1) := by decide +kernel
theorem dX4_readBook_16 : decode cX4_readBook 16 = .ok (.getfield 24, 3) := by decide +kernel
theorem dX4_readBook_19 : decode cX4_readBook 19 = .ok (.getfield 28, 3) := by decide +kernel
theorem dX4_readBook_22 : decode cX4_readBook 22 = .ok (.goto 4, 3) := by decide +kernel
theorem dX4_readBook_25 : decode cX4_readBook 25 = .ok (.iload_n 1, 1) := by decide +kernel
theorem dX4_readBook_26 : decode cX4_readBook 26 = .ok (.istore_n 2, 1) := by decide +kernel
theorem dX4_readBook_27 : decode cX4_readBook 27 = .ok (.aload_n 0, 1) := by decide +kernel
theorem dX4_readBook_28 : decode cX4_readBook 28 = .ok (.getfield 9, 3) := by decide +kernel
theorem dX4_readBook_31 : decode cX4_readBook 31 = .ok (.sipush 10000, 3) := by decide +kernel
theorem dX4_readBook_34 : decode cX4_readBook 34 = .ok (.invokestatic 34, 3) := by decide +kernel
theorem dX4_readBook_37 : decode cX4_readBook 37 = .ok (.aload_n 0, 1) := by decide +kernel
theorem dX4_readBook_38 : decode cX4_readBook 38 = .ok (.getfield 18, 3) := by decide +kernel
theorem dX4_readBook_41 : decode cX4_readBook 41 = .ok (.iconst 0, 1) := by decide +kernel
theorem dX4_readBook_42 : decode cX4_readBook 42 = .ok (.invokestatic 34, 3) := by decide +kernel
theorem dX4_readBook_45 : decode cX4_readBook 45 = .ok (.iconst 0, 1) := by decide +kernel
theorem dX4_readBook_46 : decode cX4_readBook 46 = .ok (.istore_n 3, 1) := by decide +kernel
theorem dX4_readBook_47 : decode cX4_readBook 47 = .ok (.iload_n 3, 1) := by decide +kernel
theorem dX4_readBook_48 : decode cX4_readBook 48 = .ok (.iload_n 2, 1) := by decide +kernel
theorem dX4_readBook_49 : decode cX4_readBook 49 = .ok (.if_icmp .ge 111, 3) := by decide +kernel
theorem dX4_readBook_52 : decode cX4_readBook 52 = .ok (.aload_n 0, 1) := by decide +kernel
theorem dX4_readBook_53 : decode cX4_readBook 53 = .ok (.getfield 24, 3) := by decide +kernel
theorem dX4_readBook_56 : decode cX4_readBook 56 = .ok (.iload_n 3, 1) := by decide +kernel
theorem dX4_readBook_57 : decode cX4_readBook 57 = .ok (.iload_n 2, 1) := by decide +kernel
theorem dX4_readBook_58 : decode cX4_readBook 58 = .ok (.invokevirtual 40, 3) := by decide +kernel
theorem dX4_readBook_61 : decode cX4_readBook 61 = .ok (.ifCond .ne 6, 3) := by decide +kernel
theorem dX4_readBook_64 : decode cX4_readBook 64 = .ok (.goto 90, 3) := by decide +kernel
theorem dX4_readBook_67 : decode cX4_readBook 67 = .ok (.aload_n 0, 1) := by decide +kernel
theorem dX4_readBook_68 : decode cX4_readBook 68 = .ok (.getfield 24, 3) := by decide +kernel
theorem dX4_readBook_71 : decode cX4_readBook 71 = .ok (.getfield 44, 3) := by decide +kernel
theorem dX4_readBook_74 : decode cX4_readBook 74 = .ok (.iload_n 3, 1) := by decide +kernel
theorem dX4_readBook_75 : decode cX4_readBook 75 = .ok (.iaload, 1) := by decide +kernel
theorem dX4_readBook_76 : decode cX4_readBook 76 = .ok (.ifCond .ne 29, 3) := by decide +kernel
theorem dX4_readBook_79 : decode cX4_readBook 79 = .ok (.aload_n 0, 1) := by decide +kernel
theorem dX4_readBook_80 : decode cX4_readBook 80 = .ok (.getfield 9, 3) := by decide +kernel
theorem dX4_readBook_83 : decode cX4_readBook 83 = .ok (.aload_n 0, 1) := by decide +kernel
theorem dX4_readBook_84 : decode cX4_readBook 84 = .ok (.getfield 24, 3) := by decide +kernel
theorem dX4_readBook_87 : decode cX4_readBook 87 = .ok (.getfield 47, 3) := by decide +kernel
theorem dX4_readBook_90 : decode cX4_readBook 90 = .ok (.iload_n 3, 1) := by decide +kernel
theorem dX4_readBook_91 : decode cX4_readBook 91 = .ok (.iaload, 1) := by decide +kernel
theorem dX4_readBook_92 : decode cX4_readBook 92 = .ok (.aload_n 0, 1) := by decide +kernel
theorem dX4_readBook_93 : decode cX4_readBook 93 = .ok (.getfield 24, 3) := by decide +kernel
theorem dX4_readBook_96 : decode cX4_readBook 96 = .ok (.getfield 50, 3) := by decide +kernel
theorem dX4_readBook_99 : decode cX4_readBook 99 = .ok (.iload_n 3, 1) := by decide +kernel
theorem dX4_readBook_100 : decode cX4_readBook 100 = .ok (.iaload, 1) := by decide +kernel
theorem dX4_readBook_101 : decode cX4_readBook 101 = .ok (.iastore, 1) := by decide +kernel
theorem dX4_readBook_102 : decode cX4_readBook 102 = .ok (.goto 52, 3) := by decide +kernel
theorem dX4_readBook_105 : decode cX4_readBook 105 = .ok (.aload_n 0, 1) := by decide +kernel
theorem dX4_readBook_106 : decode cX4_readBook 106 = .ok (.getfield 18, 3) := by decide +kernel
theorem dX4_readBook_109 : decode cX4_readBook 109 = .ok (.aload_n 0, 1) := by decide +kernel
theorem dX4_readBook_110 : decode cX4_readBook 110 = .ok (.getfield 24, 3) := by decide +kernel
theorem dX4_readBook_113 : decode cX4_readBook 113 = .ok (.getfield 47, 3) := by decide +kernel
theorem dX4_readBook_116 : decode cX4_readBook 116 = .ok (.iload_n 3, 1) := by decide +kernel
theorem dX4_readBook_117 : decode cX4_readBook 117 = .ok (.iaload, 1) := by decide +kernel
theorem dX4_readBook_118 : decode cX4_readBook 118 = .ok (.dup2, 1) := by decide +kernel
theorem dX4_readBook_119 : decode cX4_readBook 119 = .ok (.iaload, 1) := by decide +kernel
theorem dX4_readBook_120 : decode cX4_readBook 120 = .ok (.iconst 1, 1) := by decide +kernel
theorem dX4_readBook_121 : decode cX4_readBook 121 = .ok (.iadd, 1) := by decide +kernel
theorem dX4_readBook_122 : decode cX4_readBook 122 = .ok (.iastore, 1) := by decide +kernel
theorem dX4_readBook_123 : decode cX4_readBook 123 = .ok (.aload_n 0, 1) := by decide +kernel
theorem dX4_readBook_124 : decode cX4_readBook 124 = .ok (.getfield 24, 3) := by decide +kernel
theorem dX4_readBook_127 : decode cX4_readBook 127 = .ok (.getfield 44, 3) := by decide +kernel
theorem dX4_readBook_130 : decode cX4_readBook 130 = .ok (.iload_n 3, 1) := by decide +kernel
theorem dX4_readBook_131 : decode cX4_readBook 131 = .ok (.iaload, 1) := by decide +kernel
theorem dX4_readBook_132 : decode cX4_readBook 132 = .ok (.iconst 1, 1) := by decide +kernel
theorem dX4_readBook_133 : decode cX4_readBook 133 = .ok (.if_icmp .ne 21, 3) := by decide +kernel
theorem dX4_readBook_136 : decode cX4_readBook 136 = .ok (.aload_n 0, 1) := by decide +kernel
theorem dX4_readBook_137 : decode cX4_readBook 137 = .ok (.getfield 18, 3) := by decide +kernel
theorem dX4_readBook_140 : decode cX4_readBook 140 = .ok (.aload_n 0, 1) := by decide +kernel
theorem dX4_readBook_141 : decode cX4_readBook 141 = .ok (.getfield 24, 3) := by decide +kernel
theorem dX4_readBook_144 : decode cX4_readBook 144 = .ok (.getfield 53, 3) := by decide +kernel
theorem dX4_readBook_147 : decode cX4_readBook 147 = .ok (.iload_n 3, 1) := by decide +kernel
theorem dX4_readBook_148 : decode cX4_readBook 148 = .ok (.iaload, 1) := by decide +kernel
theorem dX4_readBook_149 : decode cX4_readBook 149 = .ok (.dup2, 1) := by decide +kernel
theorem dX4_readBook_150 : decode cX4_readBook 150 = .ok (.iaload, 1) := by decide +kernel
theorem dX4_readBook_151 : decode cX4_readBook 151 = .ok (.iconst 1, 1) := by decide +kernel
theorem dX4_readBook_152 : decode cX4_readBook 152 = .ok (.iadd, 1) := by decide +kernel
theorem dX4_readBook_153 : decode cX4_readBook 153 = .ok (.iastore, 1) := by decide +kernel
theorem dX4_readBook_154 : decode cX4_readBook 154 = .ok (.iinc 3 1, 3) := by decide +kernel
theorem dX4_readBook_157 : decode cX4_readBook 157 = .ok (.goto (-110), 3) := by decide +kernel
theorem dX4_readBook_160 : decode cX4_readBook 160 = .ok (.iconst 0, 1) := by decide +kernel
theorem dX4_readBook_161 : decode cX4_readBook 161 = .ok (.istore_n 3, 1) := by decide +kernel
theorem dX4_readBook_162 : decode cX4_readBook 162 = .ok (.iconst 0, 1) := by decide +kernel
theorem dX4_readBook_163 : decode cX4_readBook 163 = .ok (.istore 4, 2) := by decide +kernel
theorem dX4_readBook_165 : decode cX4_readBook 165 = .ok (.iload 4, 2) := by decide +kernel
theorem dX4_readBook_167 : decode cX4_readBook 167 = .ok (.bipush 24, 2) := by decide +kernel
theorem dX4_readBook_169 : decode cX4_readBook 169 = .ok (.if_icmp .ge 41, 3) := by decide +kernel
theorem dX4_readBook_172 : decode cX4_readBook 172 = .ok (.aload_n 0, 1) := by decide +kernel
theorem dX4_readBook_173 : decode cX4_readBook 173 = .ok (.getfield 15, 3) := by decide +kernel
theorem dX4_readBook_176 : decode cX4_readBook 176 = .ok (.iload 4, 2) := by decide +kernel
theorem dX4_readBook_178 : decode cX4_readBook 178 = .ok (.iload_n 3, 1) := by decide +kernel
theorem dX4_readBook_179 : decode cX4_readBook 179 = .ok (.iastore, 1) := by decide +kernel
theorem dX4_readBook_180 : decode cX4_readBook 180 = .ok (.iload_n 3, 1) := by decide +kernel
theorem dX4_readBook_181 : decode cX4_readBook 181 = .ok (.aload_n 0, 1) := by decide +kernel
theorem dX4_readBook_182 : decode cX4_readBook 182 = .ok (.getfield 18, 3) := by decide +kernel
theorem dX4_readBook_185 : decode cX4_readBook 185 = .ok (.iload 4, 2) := by decide +kernel
theorem dX4_readBook_187 : decode cX4_readBook 187 = .ok (.iaload, 1) := by decide +kernel
theorem dX4_readBook_188 : decode cX4_readBook 188 = .ok (.iadd, 1) := by decide +kernel
theorem dX4_readBook_189 : decode cX4_readBook 189 = .ok (.istore_n 3, 1) := by decide +kernel
theorem dX4_readBook_190 : decode cX4_readBook 190 = .ok (.aload_n 0, 1) := by decide +kernel
theorem dX4_readBook_191 : decode cX4_readBook 191 = .ok (.getfield 18, 3) := by decide +kernel
theorem dX4_readBook_194 : decode cX4_readBook 194 = .ok (.iload 4, 2) := by decide +kernel
theorem dX4_readBook_196 : decode cX4_readBook 196 = .ok (.aload_n 0, 1) := by decide +kernel
theorem dX4_readBook_197 : decode cX4_readBook 197 = .ok (.getfield 15, 3) := by decide +kernel
theorem dX4_readBook_200 : decode cX4_readBook 200 = .ok (.iload 4, 2) := by decide +kernel
theorem dX4_readBook_202 : decode cX4_readBook 202 = .ok (.iaload, 1) := by decide +kernel
theorem dX4_readBook_203 : decode cX4_readBook 203 = .ok (.iastore, 1) := by decide +kernel
theorem dX4_readBook_204 : decode cX4_readBook 204 = .ok (.iinc 4 1, 3) := by decide +kernel
theorem dX4_readBook_207 : decode cX4_readBook 207 = .ok (.goto (-42), 3) := by decide +kernel
theorem dX4_readBook_210 : decode cX4_readBook 210 = .ok (.iconst 0, 1) := by decide +kernel
theorem dX4_readBook_211 : decode cX4_readBook 211 = .ok (.istore 4, 2) := by decide +kernel
theorem dX4_readBook_213 : decode cX4_readBook 213 = .ok (.iload 4, 2) := by decide +kernel
theorem dX4_readBook_215 : decode cX4_readBook 215 = .ok (.aload_n 0, 1) := by decide +kernel
theorem dX4_readBook_216 : decode cX4_readBook 216 = .ok (.getfield 24, 3) := by decide +kernel
theorem dX4_readBook_219 : decode cX4_readBook 219 = .ok (.getfield 56, 3) := by decide +kernel
theorem dX4_readBook_222 : decode cX4_readBook 222 = .ok (.if_icmp .ge 96, 3) := by decide +kernel
theorem dX4_readBook_225 : decode cX4_readBook 225 = .ok (.aload_n 0, 1) := by decide +kernel
theorem dX4_readBook_226 : decode cX4_readBook 226 = .ok (.getfield 24, 3) := by decide +kernel
theorem dX4_readBook_229 : decode cX4_readBook 229 = .ok (.getfield 59, 3) := by decide +kernel
theorem dX4_readBook_232 : decode cX4_readBook 232 = .ok (.iload 4, 2) := by decide +kernel
theorem dX4_readBook_234 : decode cX4_readBook 234 = .ok (.iaload, 1) := by decide +kernel
theorem dX4_readBook_235 : decode cX4_readBook 235 = .ok (.istore 5, 2) := by decide +kernel
theorem dX4_readBook_237 : decode cX4_readBook 237 = .ok (.aload_n 0, 1) := by decide +kernel
theorem dX4_readBook_238 : decode cX4_readBook 238 = .ok (.getfield 24, 3) := by decide +kernel
theorem dX4_readBook_241 : decode cX4_readBook 241 = .ok (.iload 5, 2) := by decide +kernel
theorem dX4_readBook_243 : decode cX4_readBook 243 = .ok (.iload_n 2, 1) := by decide +kernel
theorem dX4_readBook_244 : decode cX4_readBook 244 = .ok (.invokevirtual 40, 3) := by decide +kernel
theorem dX4_readBook_247 : decode cX4_readBook 247 = .ok (.ifCond .eq 65, 3) := by decide +kernel
theorem dX4_readBook_250 : decode cX4_readBook 250 = .ok (.aload_n 0, 1) := by decide +kernel
theorem dX4_readBook_251 : decode cX4_readBook 251 = .ok (.getfield 24, 3) := by decide +kernel
theorem dX4_readBook_254 : decode cX4_readBook 254 = .ok (.getfield 44, 3) := by decide +kernel
theorem dX4_readBook_257 : decode cX4_readBook 257 = .ok (.iload 5, 2) := by decide +kernel
theorem dX4_readBook_259 : decode cX4_readBook 259 = .ok (.iaload, 1) := by decide +kernel
theorem dX4_readBook_260 : decode cX4_readBook 260 = .ok (.ifCond .ne 6, 3) := by decide +kernel
theorem dX4_readBook_263 : decode cX4_readBook 263 = .ok (.goto 49, 3) := by decide +kernel
theorem dX4_readBook_266 : decode cX4_readBook 266 = .ok (.aload_n 0, 1) := by decide +kernel
theorem dX4_readBook_267 : decode cX4_readBook 267 = .ok (.aload_n 0, 1) := by decide +kernel
theorem dX4_readBook_268 : decode cX4_readBook 268 = .ok (.getfield 24, 3) := by decide +kernel
theorem dX4_readBook_271 : decode cX4_readBook 271 = .ok (.getfield 47, 3) := by decide +kernel
theorem dX4_readBook_274 : decode cX4_readBook 274 = .ok (.iload 5, 2) := by decide +kernel
theorem dX4_readBook_276 : decode cX4_readBook 276 = .ok (.iaload, 1) := by decide +kernel
theorem dX4_readBook_277 : decode cX4_readBook 277 = .ok (.iload 5, 2) := by decide +kernel
theorem dX4_readBook_279 : decode cX4_readBook 279 = .ok (.invokevirtual 62, 3) := by decide +kernel
theorem dX4_readBook_282 : decode cX4_readBook 282 = .ok (.aload_n 0, 1) := by decide +kernel
theorem dX4_readBook_283 : decode cX4_readBook 283 = .ok (.getfield 24, 3) := by decide +kernel
theorem dX4_readBook_286 : decode cX4_readBook 286 = .ok (.getfield 44, 3) := by decide +kernel
theorem dX4_readBook_289 : decode cX4_readBook 289 = .ok (.iload 5, 2) := by decide +kernel
theorem dX4_readBook_291 : decode cX4_readBook 291 = .ok (.iaload, 1) := by decide +kernel
theorem dX4_readBook_292 : decode cX4_readBook 292 = .ok (.iconst 1, 1) := by decide +kernel
theorem dX4_readBook_293 : decode cX4_readBook 293 = .ok (.if_icmp .ne 19, 3) := by decide +kernel
theorem dX4_readBook_296 : decode cX4_readBook 296 = .ok (.aload_n 0, 1) := by decide +kernel
theorem dX4_readBook_297 : decode cX4_readBook 297 = .ok (.aload_n 0, 1) := by decide +kernel
theorem dX4_readBook_298 : decode cX4_readBook 298 = .ok (.getfield 24, 3) := by decide +kernel
theorem dX4_readBook_301 : decode cX4_readBook 301 = .ok (.getfield 53, 3) := by decide +kernel
theorem dX4_readBook_304 : decode cX4_readBook 304 = .ok (.iload 5, 2) := by decide +kernel
theorem dX4_readBook_306 : decode cX4_readBook 306 = .ok (.iaload, 1) := by decide +kernel
theorem dX4_readBook_307 : decode cX4_readBook 307 = .ok (.iload 5, 2) := by decide +kernel
theorem dX4_readBook_309 : decode cX4_readBook 309 = .ok (.invokevirtual 62, 3) := by decide +kernel
theorem dX4_readBook_312 : decode cX4_readBook 312 = .ok (.iinc 4 1, 3) := by decide +kernel
theorem dX4_readBook_315 : decode cX4_readBook 315 = .ok (.goto (-102), 3) := by decide +kernel
theorem dX4_readBook_318 : decode cX4_readBook 318 = .ok (.return_, 1) := by decide +kernel
set_option maxRecDepth 100000 in
theorem t_Lv_readBook_J312 (hC : CX z ad x cX4_readBook RX4 6 none) (hR : x.2.2.1 = rmk 5 0 0) (k_213 : XS → Int32 → Int32 → Option (Unit × XS)) (hk_213 : ∀ (τ : XS) (a2 : Int32) (a4 : Int32), AT z x 6 (wX z σ) rU (eqA ad) 0 0 0 0 ad 213 [(0, .ref 49), (2, .int a2), (4, .int a4)] [] τ (k_213 τ a2 a4)) (τ : XS) (a2 : Int32) (a4 : Int32) : AT z x 6 (wX z σ) rU (eqA ad) 0 0 0 0 ad 312 [(0, .ref 49), (2, .int a2), (4, .int a4)] [] τ (Lv_readBook_J312 k_213 τ a2 a4) := by
  unfold Lv_readBook_J312
  refine at_iinc (j := 2) (v := a4 + 1) (lv' := [(4, .int (a4 + 1)), (0, .ref 49), (2, .int a2)]) hC dX4_readBook_312 rfl rfl (by decide) rfl ?_
  refine at_goto (tgt := 213) hC dX4_readBook_315 rfl ?_
  refine at_drop (lv' := [(0, .ref 49), (2, .int a2), (4, .int (a4 + 1))]) [1, 2, 0] rfl ?_
  exact hk_213 τ a2 (a4 + 1)
set_option maxRecDepth 100000 in
theorem t_Lv_readBook_L213 (hC : CX z ad x cX4_readBook RX4 6 none) (hR : x.2.2.1 = rmk 5 0 0) (n : Nat) (τ : XS) (a2 : Int32) (a4 : Int32) : AT z x 6 (wX z σ) rU (eqA ad) 0 0 0 0 ad 213 [(0, .ref 49), (2, .int a2), (4, .int a4)] [] τ (Lv_readBook_L213 n τ a2 a4) := by
  revert τ a2 a4
  show ∀ (τ : XS) (a2 : Int32) (a4 : Int32), AT z x 6 (wX z σ) rU (eqA ad) 0 0 0 0 ad 213 [(0, .ref 49), (2, .int a2), (4, .int a4)] [] τ (Lv_readBook_L213_r n τ a2 a4)
  induction n with
  | zero => intro τ a2 a4; exact at_none
  | succ n hk_213 =>
    intro τ a2 a4
    unfold Lv_readBook_L213_r
    refine at_iload (j := 2) hC rfl dX4_readBook_213 ?_
    refine at_aload_n (j := 0) hC rfl rfl dX4_readBook_215 ?_
    refine gf_X4_24 hC dX4_readBook_216 ?_
    refine gf_X4_56 hC dX4_readBook_219 ?_
    refine at_icmp_ge (tgt := 318) hC dX4_readBook_222 rfl (fun _ => ?_) (fun _ => ?_)
    · exact at_vret (F := eqA ad) (ra := rU) hC dX4_readBook_318 rfl (Nat.le_refl 0) (Nat.le_refl 0) rfl
    · refine at_aload_n (j := 0) hC rfl rfl dX4_readBook_225 ?_
      refine gf_X4_24 hC dX4_readBook_226 ?_
      refine gf_X4_59 hC dX4_readBook_229 ?_
      refine at_iload (j := 2) hC rfl dX4_readBook_232 ?_
      refine at_iald hC 48 dX4_readBook_234 cl_48 (fun v1 => ?_)
      refine at_istore (lv' := [(5, .int v1), (0, .ref 49), (2, .int a2), (4, .int a4)]) hC dX4_readBook_235 (by decide) rfl ?_
      refine at_aload_n (j := 1) hC rfl rfl dX4_readBook_237 ?_
      refine gf_X4_24 hC dX4_readBook_238 ?_
      refine at_iload (j := 0) hC rfl dX4_readBook_241 ?_
      refine at_iload_n (j := 2) hC rfl rfl dX4_readBook_243 ?_
      refine at_callVpI hC hR lk_X4_40 (c_Bk_isSo τ v1 a2) dX4_readBook_244 recX1 rfl rfl ⟨by decide, by decide⟩ (Nat.le_of_ble_eq_true rfl) ⟨Nat.le_refl 0, Nat.le_refl 0⟩ (fun r2 _ => ?_)
      refine at_if_eq (tgt := 312) hC dX4_readBook_247 rfl (fun _ => ?_) (fun _ => ?_)
      · refine at_drop (lv' := [(0, .ref 49), (2, .int a2), (4, .int a4)]) [1, 2, 3] rfl ?_
        exact t_Lv_readBook_J312 hC hR (Lv_readBook_L213_r n) hk_213 τ a2 a4
      · refine at_aload_n (j := 1) hC rfl rfl dX4_readBook_250 ?_
        refine gf_X4_24 hC dX4_readBook_251 ?_
        refine gf_X4_44 hC dX4_readBook_254 ?_
        refine at_iload (j := 0) hC rfl dX4_readBook_257 ?_
        refine at_iald hC 42 dX4_readBook_259 cl_42 (fun v3 => ?_)
        refine at_if_ne (tgt := 266) hC dX4_readBook_260 rfl (fun _ => ?_) (fun _ => ?_)
        · refine at_aload_n (j := 1) hC rfl rfl dX4_readBook_266 ?_
          refine at_aload_n (j := 1) hC rfl rfl dX4_readBook_267 ?_
          refine gf_X4_24 hC dX4_readBook_268 ?_
          refine gf_X4_47 hC dX4_readBook_271 ?_
          refine at_iload (j := 0) hC rfl dX4_readBook_274 ?_
          refine at_iald hC 43 dX4_readBook_276 cl_43 (fun v4 => ?_)
          refine at_iload (j := 0) hC rfl dX4_readBook_277 ?_
          refine at_callVU hC hR lk_X4_62 (c_Lv_listFor τ v4 v1) dX4_readBook_279 recX4 rfl rfl ⟨by decide, by decide⟩ (Nat.le_of_ble_eq_true rfl) ⟨Nat.le_refl 0, Nat.le_refl 0⟩ (fun r5 r5s _ => ?_)
          refine at_aload_n (j := 1) hC rfl rfl dX4_readBook_282 ?_
          refine gf_X4_24 hC dX4_readBook_283 ?_
          refine gf_X4_44 hC dX4_readBook_286 ?_
          refine at_iload (j := 0) hC rfl dX4_readBook_289 ?_
          refine at_iald hC 42 dX4_readBook_291 cl_42 (fun v6 => ?_)
          refine at_iconst hC ic_1 dX4_readBook_292 ?_
          refine at_icmp_ne (tgt := 312) hC dX4_readBook_293 rfl (fun _ => ?_) (fun _ => ?_)
          · refine at_drop (lv' := [(0, .ref 49), (2, .int a2), (4, .int a4)]) [1, 2, 3] rfl ?_
            exact t_Lv_readBook_J312 hC hR (Lv_readBook_L213_r n) hk_213 r5s a2 a4
          · refine at_aload_n (j := 1) hC rfl rfl dX4_readBook_296 ?_
            refine at_aload_n (j := 1) hC rfl rfl dX4_readBook_297 ?_
            refine gf_X4_24 hC dX4_readBook_298 ?_
            refine gf_X4_53 hC dX4_readBook_301 ?_
            refine at_iload (j := 0) hC rfl dX4_readBook_304 ?_
            refine at_iald hC 44 dX4_readBook_306 cl_44 (fun v7 => ?_)
            refine at_iload (j := 0) hC rfl dX4_readBook_307 ?_
            refine at_callVU hC hR lk_X4_62 (c_Lv_listFor r5s v7 v1) dX4_readBook_309 recX4 rfl rfl ⟨by decide, by decide⟩ (Nat.le_of_ble_eq_true rfl) ⟨Nat.le_refl 0, Nat.le_refl 0⟩ (fun r8 r8s _ => ?_)
            refine at_drop (lv' := [(0, .ref 49), (2, .int a2), (4, .int a4)]) [1, 2, 3] rfl ?_
            exact t_Lv_readBook_J312 hC hR (Lv_readBook_L213_r n) hk_213 r8s a2 a4
        · refine at_goto (tgt := 312) hC dX4_readBook_263 rfl ?_
          refine at_drop (lv' := [(0, .ref 49), (2, .int a2), (4, .int a4)]) [1, 2, 3] rfl ?_
          exact t_Lv_readBook_J312 hC hR (Lv_readBook_L213_r n) hk_213 τ a2 a4
set_option maxRecDepth 100000 in
theorem t_Lv_readBook_L165 (hC : CX z ad x cX4_readBook RX4 6 none) (hR : x.2.2.1 = rmk 5 0 0) (n : Nat) (τ : XS) (a2 : Int32) (a3 : Int32) (a4 : Int32) : AT z x 6 (wX z σ) rU (eqA ad) 0 0 0 0 ad 165 [(0, .ref 49), (2, .int a2), (3, .int a3), (4, .int a4)] [] τ (Lv_readBook_L165 n τ a2 a3 a4) := by
  revert τ a2 a3 a4
  show ∀ (τ : XS) (a2 : Int32) (a3 : Int32) (a4 : Int32), AT z x 6 (wX z σ) rU (eqA ad) 0 0 0 0 ad 165 [(0, .ref 49), (2, .int a2), (3, .int a3), (4, .int a4)] [] τ (Lv_readBook_L165_r n τ a2 a3 a4)
  induction n with
  | zero => intro τ a2 a3 a4; exact at_none
  | succ n hk_165 =>
    intro τ a2 a3 a4
    unfold Lv_readBook_L165_r
    refine at_iload (j := 3) hC rfl dX4_readBook_165 ?_
    refine at_bipush hC bi_24 dX4_readBook_167 ?_
    refine at_icmp_ge (tgt := 210) hC dX4_readBook_169 rfl (fun _ => ?_) (fun _ => ?_)
    · refine at_iconst hC ic_0 dX4_readBook_210 ?_
      refine at_istore (lv' := [(4, .int 0), (0, .ref 49), (2, .int a2), (3, .int a3)]) hC dX4_readBook_211 (by decide) rfl ?_
      refine at_drop (lv' := [(0, .ref 49), (2, .int a2), (4, .int 0)]) [1, 2, 0] rfl ?_
      exact t_Lv_readBook_L213 hC hR 100000 τ a2 0
    · refine at_aload_n (j := 0) hC rfl rfl dX4_readBook_172 ?_
      refine gf_X4_15 hC dX4_readBook_173 ?_
      refine at_iload (j := 3) hC rfl dX4_readBook_176 ?_
      refine at_iload_n (j := 2) hC rfl rfl dX4_readBook_178 ?_
      refine at_iast hC 51 dX4_readBook_179 cl_51 st_51 ?_
      refine at_iload_n (j := 2) hC rfl rfl dX4_readBook_180 ?_
      refine at_aload_n (j := 0) hC rfl rfl dX4_readBook_181 ?_
      refine gf_X4_18 hC dX4_readBook_182 ?_
      refine at_iload (j := 3) hC rfl dX4_readBook_185 ?_
      refine at_iald hC 52 dX4_readBook_187 cl_52 (fun v9 => ?_)
      refine at_iadd hC dX4_readBook_188 ?_
      refine at_istore_n (lv' := [(3, .int (a3 + v9)), (0, .ref 49), (2, .int a2), (4, .int a4)]) hC rfl dX4_readBook_189 (by decide) rfl ?_
      refine at_aload_n (j := 1) hC rfl rfl dX4_readBook_190 ?_
      refine gf_X4_18 hC dX4_readBook_191 ?_
      refine at_iload (j := 3) hC rfl dX4_readBook_194 ?_
      refine at_aload_n (j := 1) hC rfl rfl dX4_readBook_196 ?_
      refine gf_X4_15 hC dX4_readBook_197 ?_
      refine at_iload (j := 3) hC rfl dX4_readBook_200 ?_
      refine at_iald hC 51 dX4_readBook_202 cl_51 (fun v10 => ?_)
      refine at_iast hC 52 dX4_readBook_203 cl_52 st_52 ?_
      refine at_iinc (j := 3) (v := a4 + 1) (lv' := [(4, .int (a4 + 1)), (3, .int (a3 + v9)), (0, .ref 49), (2, .int a2)]) hC dX4_readBook_204 rfl rfl (by decide) rfl ?_
      refine at_goto (tgt := 165) hC dX4_readBook_207 rfl ?_
      refine at_drop (lv' := [(0, .ref 49), (2, .int a2), (3, .int (a3 + v9)), (4, .int (a4 + 1))]) [2, 3, 1, 0] rfl ?_
      exact hk_165 (xA (xA τ 402 (upd (τ.2.1 402) a4.toNatClampNeg a3)) 403 (upd ((xA τ 402 (upd (τ.2.1 402) a4.toNatClampNeg a3)).2.1 403) a4.toNatClampNeg v10)) a2 (a3 + v9) (a4 + 1)
set_option maxRecDepth 100000 in
theorem t_Lv_readBook_J154 (hC : CX z ad x cX4_readBook RX4 6 none) (hR : x.2.2.1 = rmk 5 0 0) (k_47 : XS → Int32 → Int32 → Option (Unit × XS)) (hk_47 : ∀ (τ : XS) (a2 : Int32) (a3 : Int32), AT z x 6 (wX z σ) rU (eqA ad) 0 0 0 0 ad 47 [(0, .ref 49), (2, .int a2), (3, .int a3)] [] τ (k_47 τ a2 a3)) (τ : XS) (a2 : Int32) (a3 : Int32) : AT z x 6 (wX z σ) rU (eqA ad) 0 0 0 0 ad 154 [(0, .ref 49), (2, .int a2), (3, .int a3)] [] τ (Lv_readBook_J154 k_47 τ a2 a3) := by
  unfold Lv_readBook_J154
  refine at_iinc (j := 2) (v := a3 + 1) (lv' := [(3, .int (a3 + 1)), (0, .ref 49), (2, .int a2)]) hC dX4_readBook_154 rfl rfl (by decide) rfl ?_
  refine at_goto (tgt := 47) hC dX4_readBook_157 rfl ?_
  refine at_drop (lv' := [(0, .ref 49), (2, .int a2), (3, .int (a3 + 1))]) [1, 2, 0] rfl ?_
  exact hk_47 τ a2 (a3 + 1)
set_option maxRecDepth 100000 in
theorem t_Lv_readBook_L47 (hC : CX z ad x cX4_readBook RX4 6 none) (hR : x.2.2.1 = rmk 5 0 0) (n : Nat) (τ : XS) (a2 : Int32) (a3 : Int32) : AT z x 6 (wX z σ) rU (eqA ad) 0 0 0 0 ad 47 [(0, .ref 49), (2, .int a2), (3, .int a3)] [] τ (Lv_readBook_L47 n τ a2 a3) := by
  revert τ a2 a3
  show ∀ (τ : XS) (a2 : Int32) (a3 : Int32), AT z x 6 (wX z σ) rU (eqA ad) 0 0 0 0 ad 47 [(0, .ref 49), (2, .int a2), (3, .int a3)] [] τ (Lv_readBook_L47_r n τ a2 a3)
  induction n with
  | zero => intro τ a2 a3; exact at_none
  | succ n hk_47 =>
    intro τ a2 a3
    unfold Lv_readBook_L47_r
    refine at_iload_n (j := 2) hC rfl rfl dX4_readBook_47 ?_
    refine at_iload_n (j := 1) hC rfl rfl dX4_readBook_48 ?_
    refine at_icmp_ge (tgt := 160) hC dX4_readBook_49 rfl (fun _ => ?_) (fun _ => ?_)
    · refine at_iconst hC ic_0 dX4_readBook_160 ?_
      refine at_istore_n (lv' := [(3, .int 0), (0, .ref 49), (2, .int a2)]) hC rfl dX4_readBook_161 (by decide) rfl ?_
      refine at_iconst hC ic_0 dX4_readBook_162 ?_
      refine at_istore (lv' := [(4, .int 0), (3, .int 0), (0, .ref 49), (2, .int a2)]) hC dX4_readBook_163 (by decide) rfl ?_
      refine at_drop (lv' := [(0, .ref 49), (2, .int a2), (3, .int 0), (4, .int 0)]) [2, 3, 1, 0] rfl ?_
      exact t_Lv_readBook_L165 hC hR 100000 τ a2 0 0
    · refine at_aload_n (j := 0) hC rfl rfl dX4_readBook_52 ?_
      refine gf_X4_24 hC dX4_readBook_53 ?_
      refine at_iload_n (j := 2) hC rfl rfl dX4_readBook_56 ?_
      refine at_iload_n (j := 1) hC rfl rfl dX4_readBook_57 ?_
      refine at_callVpI hC hR lk_X4_40 (c_Bk_isSo τ a3 a2) dX4_readBook_58 recX1 rfl rfl ⟨by decide, by decide⟩ (Nat.le_of_ble_eq_true rfl) ⟨Nat.le_refl 0, Nat.le_refl 0⟩ (fun r11 _ => ?_)
      refine at_if_ne (tgt := 67) hC dX4_readBook_61 rfl (fun _ => ?_) (fun _ => ?_)
      · refine at_aload_n (j := 0) hC rfl rfl dX4_readBook_67 ?_
        refine gf_X4_24 hC dX4_readBook_68 ?_
        refine gf_X4_44 hC dX4_readBook_71 ?_
        refine at_iload_n (j := 2) hC rfl rfl dX4_readBook_74 ?_
        refine at_iald hC 42 dX4_readBook_75 cl_42 (fun v12 => ?_)
        refine at_if_ne (tgt := 105) hC dX4_readBook_76 rfl (fun _ => ?_) (fun _ => ?_)
        · refine at_aload_n (j := 0) hC rfl rfl dX4_readBook_105 ?_
          refine gf_X4_18 hC dX4_readBook_106 ?_
          refine at_aload_n (j := 0) hC rfl rfl dX4_readBook_109 ?_
          refine gf_X4_24 hC dX4_readBook_110 ?_
          refine gf_X4_47 hC dX4_readBook_113 ?_
          refine at_iload_n (j := 2) hC rfl rfl dX4_readBook_116 ?_
          refine at_iald hC 43 dX4_readBook_117 cl_43 (fun v13 => ?_)
          refine at_dup2 hC rfl rfl dX4_readBook_118 ?_
          refine at_iald hC 52 dX4_readBook_119 cl_52 (fun v14 => ?_)
          refine at_iconst hC ic_1 dX4_readBook_120 ?_
          refine at_iadd hC dX4_readBook_121 ?_
          refine at_iast hC 52 dX4_readBook_122 cl_52 st_52 ?_
          refine at_aload_n (j := 0) hC rfl rfl dX4_readBook_123 ?_
          refine gf_X4_24 hC dX4_readBook_124 ?_
          refine gf_X4_44 hC dX4_readBook_127 ?_
          refine at_iload_n (j := 2) hC rfl rfl dX4_readBook_130 ?_
          refine at_iald hC 42 dX4_readBook_131 cl_42 (fun v15 => ?_)
          refine at_iconst hC ic_1 dX4_readBook_132 ?_
          refine at_icmp_ne (tgt := 154) hC dX4_readBook_133 rfl (fun _ => ?_) (fun _ => ?_)
          · exact t_Lv_readBook_J154 hC hR (Lv_readBook_L47_r n) hk_47 (xA τ 403 (upd (τ.2.1 403) v13.toNatClampNeg (v14 + 1))) a2 a3
          · refine at_aload_n (j := 0) hC rfl rfl dX4_readBook_136 ?_
            refine gf_X4_18 hC dX4_readBook_137 ?_
            refine at_aload_n (j := 0) hC rfl rfl dX4_readBook_140 ?_
            refine gf_X4_24 hC dX4_readBook_141 ?_
            refine gf_X4_53 hC dX4_readBook_144 ?_
            refine at_iload_n (j := 2) hC rfl rfl dX4_readBook_147 ?_
            refine at_iald hC 44 dX4_readBook_148 cl_44 (fun v16 => ?_)
            refine at_dup2 hC rfl rfl dX4_readBook_149 ?_
            refine at_iald hC 52 dX4_readBook_150 cl_52 (fun v17 => ?_)
            refine at_iconst hC ic_1 dX4_readBook_151 ?_
            refine at_iadd hC dX4_readBook_152 ?_
            refine at_iast hC 52 dX4_readBook_153 cl_52 st_52 ?_
            exact t_Lv_readBook_J154 hC hR (Lv_readBook_L47_r n) hk_47 (xA (xA τ 403 (upd (τ.2.1 403) v13.toNatClampNeg (v14 + 1))) 403 (upd ((xA τ 403 (upd (τ.2.1 403) v13.toNatClampNeg (v14 + 1))).2.1 403) v16.toNatClampNeg (v17 + 1))) a2 a3
        · refine at_aload_n (j := 0) hC rfl rfl dX4_readBook_79 ?_
          refine gf_X4_9 hC dX4_readBook_80 ?_
          refine at_aload_n (j := 0) hC rfl rfl dX4_readBook_83 ?_
          refine gf_X4_24 hC dX4_readBook_84 ?_
          refine gf_X4_47 hC dX4_readBook_87 ?_
          refine at_iload_n (j := 2) hC rfl rfl dX4_readBook_90 ?_
          refine at_iald hC 43 dX4_readBook_91 cl_43 (fun v18 => ?_)
          refine at_aload_n (j := 0) hC rfl rfl dX4_readBook_92 ?_
          refine gf_X4_24 hC dX4_readBook_93 ?_
          refine gf_X4_50 hC dX4_readBook_96 ?_
          refine at_iload_n (j := 2) hC rfl rfl dX4_readBook_99 ?_
          refine at_iald hC 45 dX4_readBook_100 cl_45 (fun v19 => ?_)
          refine at_iast hC 50 dX4_readBook_101 cl_50 st_50 ?_
          refine at_goto (tgt := 154) hC dX4_readBook_102 rfl ?_
          exact t_Lv_readBook_J154 hC hR (Lv_readBook_L47_r n) hk_47 (xA τ 401 (upd (τ.2.1 401) v18.toNatClampNeg v19)) a2 a3
      · refine at_goto (tgt := 154) hC dX4_readBook_64 rfl ?_
        exact t_Lv_readBook_J154 hC hR (Lv_readBook_L47_r n) hk_47 τ a2 a3
set_option maxRecDepth 100000 in
theorem t_Lv_readBook_J26 (hC : CX z ad x cX4_readBook RX4 6 none) (hR : x.2.2.1 = rmk 5 0 0) (τ : XS) (s0 : Int32) : AT z x 6 (wX z σ) rU (eqA ad) 0 0 0 0 ad 26 [(0, .ref 49)] [.int s0] τ (Lv_readBook_J26 τ s0) := by
  unfold Lv_readBook_J26
  refine at_istore_n (lv' := [(2, .int s0), (0, .ref 49)]) hC rfl dX4_readBook_26 (by decide) rfl ?_
  refine at_aload_n (j := 1) hC rfl rfl dX4_readBook_27 ?_
  refine gf_X4_9 hC dX4_readBook_28 ?_
  refine at_sipush hC si_10000 dX4_readBook_31 ?_
  refine at_fill (f := τ.2.1 401) (mk := fun f => xA τ 401 f) (N := 24) (q := 50) hC hR lk_X4_34 dX4_readBook_34 (fun ad => cl_50) (fun ad g => st_50) (fun ad f => cl_50) (fun ad f g => st_u50) (by decide) (by decide) (Nat.le_of_ble_eq_true rfl) ⟨Nat.le_refl 0, Nat.le_refl 0⟩ ?_
  refine at_aload_n (j := 1) hC rfl rfl dX4_readBook_37 ?_
  refine gf_X4_18 hC dX4_readBook_38 ?_
  refine at_iconst hC ic_0 dX4_readBook_41 ?_
  refine at_fill (f := (xA τ 401 (fillF 24 10000 (τ.2.1 401))).2.1 403) (mk := fun f => xA (xA τ 401 (fillF 24 10000 (τ.2.1 401))) 403 f) (N := 24) (q := 52) hC hR lk_X4_34 dX4_readBook_42 (fun ad => cl_52) (fun ad g => st_52) (fun ad f => cl_52) (fun ad f g => st_u52) (by decide) (by decide) (Nat.le_of_ble_eq_true rfl) ⟨Nat.le_refl 0, Nat.le_refl 0⟩ ?_
  refine at_iconst hC ic_0 dX4_readBook_45 ?_
  refine at_istore_n (lv' := [(3, .int 0), (2, .int s0), (0, .ref 49)]) hC rfl dX4_readBook_46 (by decide) rfl ?_
  refine at_drop (lv' := [(0, .ref 49), (2, .int s0), (3, .int 0)]) [2, 1, 0] rfl ?_
  exact t_Lv_readBook_L47 hC hR 100000 (xA (xA τ 401 (fillF 24 10000 (τ.2.1 401))) 403 (fillF 24 0 ((xA τ 401 (fillF 24 10000 (τ.2.1 401))).2.1 403))) s0 0
set_option maxRecDepth 100000 in
theorem t_Lv_readBook_J15 (hC : CX z ad x cX4_readBook RX4 6 none) (hR : x.2.2.1 = rmk 5 0 0) (τ : XS) : AT z x 6 (wX z σ) rU (eqA ad) 0 0 0 0 ad 15 [(0, .ref 49)] [] τ (Lv_readBook_J15 τ) := by
  unfold Lv_readBook_J15
  refine at_aload_n (j := 0) hC rfl rfl dX4_readBook_15 ?_
  refine gf_X4_24 hC dX4_readBook_16 ?_
  refine gf_X4_28 hC dX4_readBook_19 ?_
  refine at_goto (tgt := 26) hC dX4_readBook_22 rfl ?_
  exact t_Lv_readBook_J26 hC hR τ (τ.1 113)
set_option maxRecDepth 100000 in
theorem c_Lv_readBook (τ : XS) (p0 : Int32) : Ct z (wX z σ) rU eqA yX4_readBook cX4_readBook 6 none 5 0 0 [.ref 49, .int p0] τ (Lv_readBook τ p0) := by
  refine Ct.of (by decide) (Nat.le_of_ble_eq_true rfl) (fun ad x hC hR _ => ?_)
  show AT z x 6 (wX z σ) rU (eqA ad) 0 0 0 0 ad 0 [(0, .ref 49), (1, .int p0)] [] τ (Lv_readBook τ p0)
  unfold Lv_readBook
  refine at_iload_n (j := 1) hC rfl rfl dX4_readBook_0 ?_
  refine at_if_lt (tgt := 15) hC dX4_readBook_1 rfl (fun _ => ?_) (fun _ => ?_)
  · refine at_drop (lv' := [(0, .ref 49)]) [0] rfl ?_
    exact t_Lv_readBook_J15 hC hR τ
  · refine at_iload_n (j := 1) hC rfl rfl dX4_readBook_4 ?_
    refine at_aload_n (j := 0) hC rfl rfl dX4_readBook_5 ?_
    refine gf_X4_24 hC dX4_readBook_6 ?_
    refine gf_X4_28 hC dX4_readBook_9 ?_
    refine at_icmp_le (tgt := 25) hC dX4_readBook_12 rfl (fun _ => ?_) (fun _ => ?_)
    · refine at_iload_n (j := 1) hC rfl rfl dX4_readBook_25 ?_
      refine at_drop (lv' := [(0, .ref 49)]) [0] rfl ?_
      exact t_Lv_readBook_J26 hC hR τ p0
    · refine at_drop (lv' := [(0, .ref 49)]) [0] rfl ?_
      exact t_Lv_readBook_J15 hC hR τ
theorem dX4_livesOn_0 : decode cX4_livesOn 0 = .ok (.aload_n 0, 1) := by decide +kernel
theorem dX4_livesOn_1 : decode cX4_livesOn 1 = .ok (.getfield 24, 3) := by decide +kernel
theorem dX4_livesOn_4 : decode cX4_livesOn 4 = .ok (.getfield 66, 3) := by decide +kernel
theorem dX4_livesOn_7 : decode cX4_livesOn 7 = .ok (.iload_n 1, 1) := by decide +kernel
theorem dX4_livesOn_8 : decode cX4_livesOn 8 = .ok (.iaload, 1) := by decide +kernel
theorem dX4_livesOn_9 : decode cX4_livesOn 9 = .ok (.iload_n 2, 1) := by decide +kernel
theorem dX4_livesOn_10 : decode cX4_livesOn 10 = .ok (.if_icmp .gt 17, 3) := by decide +kernel
theorem dX4_livesOn_13 : decode cX4_livesOn 13 = .ok (.iload_n 2, 1) := by decide +kernel
theorem dX4_livesOn_14 : decode cX4_livesOn 14 = .ok (.aload_n 0, 1) := by decide +kernel
theorem dX4_livesOn_15 : decode cX4_livesOn 15 = .ok (.getfield 9, 3) := by decide +kernel
theorem dX4_livesOn_18 : decode cX4_livesOn 18 = .ok (.iload_n 1, 1) := by decide +kernel
theorem dX4_livesOn_19 : decode cX4_livesOn 19 = .ok (.iaload, 1) := by decide +kernel
theorem dX4_livesOn_20 : decode cX4_livesOn 20 = .ok (.if_icmp .ge 7, 3) := by decide +kernel
theorem dX4_livesOn_23 : decode cX4_livesOn 23 = .ok (.iconst 1, 1) := by decide +kernel
theorem dX4_livesOn_24 : decode cX4_livesOn 24 = .ok (.goto 4, 3) := by decide +kernel
theorem dX4_livesOn_27 : decode cX4_livesOn 27 = .ok (.iconst 0, 1) := by decide +kernel
theorem dX4_livesOn_28 : decode cX4_livesOn 28 = .ok (.ireturn, 1) := by decide +kernel
set_option maxRecDepth 100000 in
theorem c_Lv_livesOn (τ : XS) (p0 : Int32) (p1 : Int32) : Ct z (wX z σ) rI eqA yX4_livesOn cX4_livesOn 3 (some .boolean) 1 0 0 [.ref 49, .int p0, .int p1] τ ((Lv_livesOn τ p0 p1).map fun r => (r, τ)) := by
  refine Ct.of (by decide) (Nat.le_of_ble_eq_true rfl) (fun ad x hC hR _ => ?_)
  show AT z x 3 (wX z σ) rI (eqA ad) 0 0 0 0 ad 0 [(0, .ref 49), (1, .int p0), (2, .int p1)] [] τ ((Lv_livesOn τ p0 p1).map fun r => (r, τ))
  unfold Lv_livesOn
  refine at_aload_n (j := 0) hC rfl rfl dX4_livesOn_0 ?_
  refine gf_X4_24 hC dX4_livesOn_1 ?_
  refine gf_X4_66 hC dX4_livesOn_4 ?_
  refine at_iload_n (j := 1) hC rfl rfl dX4_livesOn_7 ?_
  refine ap_iald hC 39 dX4_livesOn_8 cl_39 (fun v1 => ?_)
  refine at_iload_n (j := 2) hC rfl rfl dX4_livesOn_9 ?_
  refine ap_icmp_gt (tgt := 27) hC dX4_livesOn_10 rfl (fun _ => ?_) (fun _ => ?_)
  · refine at_iconst hC ic_0 dX4_livesOn_27 ?_
    exact at_zret (F := eqA ad) (ra := rI) hC nb0 dX4_livesOn_28 rfl (Nat.le_refl 0) (Nat.le_refl 0) rfl
  · refine at_iload_n (j := 2) hC rfl rfl dX4_livesOn_13 ?_
    refine at_aload_n (j := 0) hC rfl rfl dX4_livesOn_14 ?_
    refine gf_X4_9 hC dX4_livesOn_15 ?_
    refine at_iload_n (j := 1) hC rfl rfl dX4_livesOn_18 ?_
    refine ap_iald hC 50 dX4_livesOn_19 cl_50 (fun v2 => ?_)
    refine ap_icmp_ge (tgt := 27) hC dX4_livesOn_20 rfl (fun _ => ?_) (fun _ => ?_)
    · refine at_iconst hC ic_0 dX4_livesOn_27 ?_
      exact at_zret (F := eqA ad) (ra := rI) hC nb0 dX4_livesOn_28 rfl (Nat.le_refl 0) (Nat.le_refl 0) rfl
    · refine at_iconst hC ic_1 dX4_livesOn_23 ?_
      refine at_goto (tgt := 28) hC dX4_livesOn_24 rfl ?_
      exact at_zret (F := eqA ad) (ra := rI) hC nb1 dX4_livesOn_28 rfl (Nat.le_refl 0) (Nat.le_refl 0) rfl
theorem dX4_lastOf_0 : decode cX4_lastOf 0 = .ok (.iconst (-1), 1) := by decide +kernel
theorem dX4_lastOf_1 : decode cX4_lastOf 1 = .ok (.istore 4, 2) := by decide +kernel
theorem dX4_lastOf_3 : decode cX4_lastOf 3 = .ok (.aload_n 0, 1) := by decide +kernel
theorem dX4_lastOf_4 : decode cX4_lastOf 4 = .ok (.getfield 15, 3) := by decide +kernel
theorem dX4_lastOf_7 : decode cX4_lastOf 7 = .ok (.iload_n 1, 1) := by decide +kernel
theorem dX4_lastOf_8 : decode cX4_lastOf 8 = .ok (.iaload, 1) := by decide +kernel
theorem dX4_lastOf_9 : decode cX4_lastOf 9 = .ok (.istore 5, 2) := by decide +kernel
theorem dX4_lastOf_11 : decode cX4_lastOf 11 = .ok (.iload 5, 2) := by decide +kernel
theorem dX4_lastOf_13 : decode cX4_lastOf 13 = .ok (.aload_n 0, 1) := by decide +kernel
theorem dX4_lastOf_14 : decode cX4_lastOf 14 = .ok (.getfield 18, 3) := by decide +kernel
theorem dX4_lastOf_17 : decode cX4_lastOf 17 = .ok (.iload_n 1, 1) := by decide +kernel
theorem dX4_lastOf_18 : decode cX4_lastOf 18 = .ok (.iaload, 1) := by decide +kernel
theorem dX4_lastOf_19 : decode cX4_lastOf 19 = .ok (.if_icmp .ge 56, 3) := by decide +kernel
theorem dX4_lastOf_22 : decode cX4_lastOf 22 = .ok (.aload_n 0, 1) := by decide +kernel
theorem dX4_lastOf_23 : decode cX4_lastOf 23 = .ok (.getfield 21, 3) := by decide +kernel
theorem dX4_lastOf_26 : decode cX4_lastOf 26 = .ok (.iload 5, 2) := by decide +kernel
theorem dX4_lastOf_28 : decode cX4_lastOf 28 = .ok (.iaload, 1) := by decide +kernel
theorem dX4_lastOf_29 : decode cX4_lastOf 29 = .ok (.istore 6, 2) := by decide +kernel
theorem dX4_lastOf_31 : decode cX4_lastOf 31 = .ok (.aload_n 0, 1) := by decide +kernel
theorem dX4_lastOf_32 : decode cX4_lastOf 32 = .ok (.getfield 24, 3) := by decide +kernel
theorem dX4_lastOf_35 : decode cX4_lastOf 35 = .ok (.getfield 50, 3) := by decide +kernel
theorem dX4_lastOf_38 : decode cX4_lastOf 38 = .ok (.iload 6, 2) := by decide +kernel
theorem dX4_lastOf_40 : decode cX4_lastOf 40 = .ok (.iaload, 1) := by decide +kernel
theorem dX4_lastOf_41 : decode cX4_lastOf 41 = .ok (.iload_n 2, 1) := by decide +kernel
theorem dX4_lastOf_42 : decode cX4_lastOf 42 = .ok (.if_icmp .le 6, 3) := by decide +kernel
theorem dX4_lastOf_45 : decode cX4_lastOf 45 = .ok (.goto 30, 3) := by decide +kernel
theorem dX4_lastOf_48 : decode cX4_lastOf 48 = .ok (.iload_n 3, 1) := by decide +kernel
theorem dX4_lastOf_49 : decode cX4_lastOf 49 = .ok (.aload_n 0, 1) := by decide +kernel
theorem dX4_lastOf_50 : decode cX4_lastOf 50 = .ok (.getfield 24, 3) := by decide +kernel
theorem dX4_lastOf_53 : decode cX4_lastOf 53 = .ok (.getfield 44, 3) := by decide +kernel
theorem dX4_lastOf_56 : decode cX4_lastOf 56 = .ok (.iload 6, 2) := by decide +kernel
theorem dX4_lastOf_58 : decode cX4_lastOf 58 = .ok (.iaload, 1) := by decide +kernel
theorem dX4_lastOf_59 : decode cX4_lastOf 59 = .ok (.ishr, 1) := by decide +kernel
theorem dX4_lastOf_60 : decode cX4_lastOf 60 = .ok (.iconst 1, 1) := by decide +kernel
theorem dX4_lastOf_61 : decode cX4_lastOf 61 = .ok (.iand, 1) := by decide +kernel
theorem dX4_lastOf_62 : decode cX4_lastOf 62 = .ok (.ifCond .eq 7, 3) := by decide +kernel
theorem dX4_lastOf_65 : decode cX4_lastOf 65 = .ok (.iload 6, 2) := by decide +kernel
theorem dX4_lastOf_67 : decode cX4_lastOf 67 = .ok (.istore 4, 2) := by decide +kernel
theorem dX4_lastOf_69 : decode cX4_lastOf 69 = .ok (.iinc 5 1, 3) := by decide +kernel
theorem dX4_lastOf_72 : decode cX4_lastOf 72 = .ok (.goto (-61), 3) := by decide +kernel
theorem dX4_lastOf_75 : decode cX4_lastOf 75 = .ok (.iload 4, 2) := by decide +kernel
theorem dX4_lastOf_77 : decode cX4_lastOf 77 = .ok (.ireturn, 1) := by decide +kernel
set_option maxRecDepth 100000 in
theorem t_Lv_lastOf_J69 (hC : CX z ad x cX4_lastOf RX4 7 (some .int)) (hR : x.2.2.1 = rmk 1 0 0) (τ : XS) (k_11 : Int32 → Int32 → Int32 → Int32 → Int32 → Option Int32) (hk_11 : ∀ (a1 : Int32) (a2 : Int32) (a3 : Int32) (a4 : Int32) (a5 : Int32), AT z x 7 (wX z σ) rI (eqA ad) 0 0 0 0 ad 11 [(0, .ref 49), (1, .int a1), (2, .int a2), (3, .int a3), (4, .int a4), (5, .int a5)] [] τ ((k_11 a1 a2 a3 a4 a5).map fun r => (r, τ))) (a1 : Int32) (a2 : Int32) (a3 : Int32) (a4 : Int32) (a5 : Int32) : AT z x 7 (wX z σ) rI (eqA ad) 0 0 0 0 ad 69 [(0, .ref 49), (1, .int a1), (2, .int a2), (3, .int a3), (4, .int a4), (5, .int a5)] [] τ ((Lv_lastOf_J69 k_11 τ a1 a2 a3 a4 a5).map fun r => (r, τ)) := by
  unfold Lv_lastOf_J69
  refine at_iinc (j := 5) (v := a5 + 1) (lv' := [(5, .int (a5 + 1)), (0, .ref 49), (1, .int a1), (2, .int a2), (3, .int a3), (4, .int a4)]) hC dX4_lastOf_69 rfl rfl (by decide) rfl ?_
  refine at_goto (tgt := 11) hC dX4_lastOf_72 rfl ?_
  refine at_drop (lv' := [(0, .ref 49), (1, .int a1), (2, .int a2), (3, .int a3), (4, .int a4), (5, .int (a5 + 1))]) [1, 2, 3, 4, 5, 0] rfl ?_
  exact hk_11 a1 a2 a3 a4 (a5 + 1)
set_option maxRecDepth 100000 in
theorem t_Lv_lastOf_L11 (hC : CX z ad x cX4_lastOf RX4 7 (some .int)) (hR : x.2.2.1 = rmk 1 0 0) (τ : XS) (n : Nat) (a1 : Int32) (a2 : Int32) (a3 : Int32) (a4 : Int32) (a5 : Int32) : AT z x 7 (wX z σ) rI (eqA ad) 0 0 0 0 ad 11 [(0, .ref 49), (1, .int a1), (2, .int a2), (3, .int a3), (4, .int a4), (5, .int a5)] [] τ ((Lv_lastOf_L11 n τ a1 a2 a3 a4 a5).map fun r => (r, τ)) := by
  revert a1 a2 a3 a4 a5
  show ∀ (a1 : Int32) (a2 : Int32) (a3 : Int32) (a4 : Int32) (a5 : Int32), AT z x 7 (wX z σ) rI (eqA ad) 0 0 0 0 ad 11 [(0, .ref 49), (1, .int a1), (2, .int a2), (3, .int a3), (4, .int a4), (5, .int a5)] [] τ ((Lv_lastOf_L11_r τ n a1 a2 a3 a4 a5).map fun r => (r, τ))
  induction n with
  | zero => intro a1 a2 a3 a4 a5; exact ap_none
  | succ n hk_11 =>
    intro a1 a2 a3 a4 a5
    unfold Lv_lastOf_L11_r
    refine at_iload (j := 5) hC rfl dX4_lastOf_11 ?_
    refine at_aload_n (j := 0) hC rfl rfl dX4_lastOf_13 ?_
    refine gf_X4_18 hC dX4_lastOf_14 ?_
    refine at_iload_n (j := 1) hC rfl rfl dX4_lastOf_17 ?_
    refine ap_iald hC 52 dX4_lastOf_18 cl_52 (fun v2 => ?_)
    refine ap_icmp_ge (tgt := 75) hC dX4_lastOf_19 rfl (fun _ => ?_) (fun _ => ?_)
    · refine at_iload (j := 4) hC rfl dX4_lastOf_75 ?_
      exact at_iret (F := eqA ad) (ra := rI) hC dX4_lastOf_77 rfl (Nat.le_refl 0) (Nat.le_refl 0) rfl
    · refine at_aload_n (j := 0) hC rfl rfl dX4_lastOf_22 ?_
      refine gf_X4_21 hC dX4_lastOf_23 ?_
      refine at_iload (j := 5) hC rfl dX4_lastOf_26 ?_
      refine ap_iald hC 53 dX4_lastOf_28 cl_53 (fun v3 => ?_)
      refine at_istore (lv' := [(6, .int v3), (0, .ref 49), (1, .int a1), (2, .int a2), (3, .int a3), (4, .int a4), (5, .int a5)]) hC dX4_lastOf_29 (by decide) rfl ?_
      refine at_aload_n (j := 1) hC rfl rfl dX4_lastOf_31 ?_
      refine gf_X4_24 hC dX4_lastOf_32 ?_
      refine gf_X4_50 hC dX4_lastOf_35 ?_
      refine at_iload (j := 0) hC rfl dX4_lastOf_38 ?_
      refine ap_iald hC 45 dX4_lastOf_40 cl_45 (fun v4 => ?_)
      refine at_iload_n (j := 3) hC rfl rfl dX4_lastOf_41 ?_
      refine ap_icmp_le (tgt := 48) hC dX4_lastOf_42 rfl (fun _ => ?_) (fun _ => ?_)
      · refine at_iload_n (j := 4) hC rfl rfl dX4_lastOf_48 ?_
        refine at_aload_n (j := 1) hC rfl rfl dX4_lastOf_49 ?_
        refine gf_X4_24 hC dX4_lastOf_50 ?_
        refine gf_X4_44 hC dX4_lastOf_53 ?_
        refine at_iload (j := 0) hC rfl dX4_lastOf_56 ?_
        refine ap_iald hC 42 dX4_lastOf_58 cl_42 (fun v5 => ?_)
        refine at_ishr hC dX4_lastOf_59 ?_
        refine at_iconst hC ic_1 dX4_lastOf_60 ?_
        refine at_iand hC dX4_lastOf_61 ?_
        refine ap_if_eq (tgt := 69) hC dX4_lastOf_62 rfl (fun _ => ?_) (fun _ => ?_)
        · refine at_drop (lv' := [(0, .ref 49), (1, .int a1), (2, .int a2), (3, .int a3), (4, .int a4), (5, .int a5)]) [1, 2, 3, 4, 5, 6] rfl ?_
          exact t_Lv_lastOf_J69 hC hR τ (Lv_lastOf_L11_r τ n) hk_11 a1 a2 a3 a4 a5
        · refine at_iload (j := 0) hC rfl dX4_lastOf_65 ?_
          refine at_istore (lv' := [(4, .int v3), (6, .int v3), (0, .ref 49), (1, .int a1), (2, .int a2), (3, .int a3), (5, .int a5)]) hC dX4_lastOf_67 (by decide) rfl ?_
          refine at_drop (lv' := [(0, .ref 49), (1, .int a1), (2, .int a2), (3, .int a3), (4, .int v3), (5, .int a5)]) [2, 3, 4, 5, 0, 6] rfl ?_
          exact t_Lv_lastOf_J69 hC hR τ (Lv_lastOf_L11_r τ n) hk_11 a1 a2 a3 v3 a5
      · refine at_goto (tgt := 75) hC dX4_lastOf_45 rfl ?_
        refine at_iload (j := 5) hC rfl dX4_lastOf_75 ?_
        exact at_iret (F := eqA ad) (ra := rI) hC dX4_lastOf_77 rfl (Nat.le_refl 0) (Nat.le_refl 0) rfl
set_option maxRecDepth 100000 in
theorem c_Lv_lastOf (τ : XS) (p0 : Int32) (p1 : Int32) (p2 : Int32) : Ct z (wX z σ) rI eqA yX4_lastOf cX4_lastOf 7 (some .int) 1 0 0 [.ref 49, .int p0, .int p1, .int p2] τ ((Lv_lastOf τ p0 p1 p2).map fun r => (r, τ)) := by
  refine Ct.of (by decide) (Nat.le_of_ble_eq_true rfl) (fun ad x hC hR _ => ?_)
  show AT z x 7 (wX z σ) rI (eqA ad) 0 0 0 0 ad 0 [(0, .ref 49), (1, .int p0), (2, .int p1), (3, .int p2)] [] τ ((Lv_lastOf τ p0 p1 p2).map fun r => (r, τ))
  unfold Lv_lastOf
  refine at_iconst hC ic_m1 dX4_lastOf_0 ?_
  refine at_istore (lv' := [(4, .int (-1)), (0, .ref 49), (1, .int p0), (2, .int p1), (3, .int p2)]) hC dX4_lastOf_1 (by decide) rfl ?_
  refine at_aload_n (j := 1) hC rfl rfl dX4_lastOf_3 ?_
  refine gf_X4_15 hC dX4_lastOf_4 ?_
  refine at_iload_n (j := 2) hC rfl rfl dX4_lastOf_7 ?_
  refine ap_iald hC 51 dX4_lastOf_8 cl_51 (fun v1 => ?_)
  refine at_istore (lv' := [(5, .int v1), (4, .int (-1)), (0, .ref 49), (1, .int p0), (2, .int p1), (3, .int p2)]) hC dX4_lastOf_9 (by decide) rfl ?_
  refine at_drop (lv' := [(0, .ref 49), (1, .int p0), (2, .int p1), (3, .int p2), (4, .int (-1)), (5, .int v1)]) [2, 3, 4, 5, 1, 0] rfl ?_
  exact t_Lv_lastOf_L11 hC hR τ 100000 p0 p1 p2 (-1) v1
theorem dX4_firstOf_0 : decode cX4_firstOf 0 = .ok (.aload_n 0, 1) := by decide +kernel
theorem dX4_firstOf_1 : decode cX4_firstOf 1 = .ok (.getfield 15, 3) := by decide +kernel
theorem dX4_firstOf_4 : decode cX4_firstOf 4 = .ok (.iload_n 1, 1) := by decide +kernel
theorem dX4_firstOf_5 : decode cX4_firstOf 5 = .ok (.iaload, 1) := by decide +kernel
theorem dX4_firstOf_6 : decode cX4_firstOf 6 = .ok (.istore 4, 2) := by decide +kernel
theorem dX4_firstOf_8 : decode cX4_firstOf 8 = .ok (.iload 4, 2) := by decide +kernel
theorem dX4_firstOf_10 : decode cX4_firstOf 10 = .ok (.aload_n 0, 1) := by decide +kernel
theorem dX4_firstOf_11 : decode cX4_firstOf 11 = .ok (.getfield 18, 3) := by decide +kernel
theorem dX4_firstOf_14 : decode cX4_firstOf 14 = .ok (.iload_n 1, 1) := by decide +kernel
theorem dX4_firstOf_15 : decode cX4_firstOf 15 = .ok (.iaload, 1) := by decide +kernel
theorem dX4_firstOf_16 : decode cX4_firstOf 16 = .ok (.if_icmp .ge 55, 3) := by decide +kernel
theorem dX4_firstOf_19 : decode cX4_firstOf 19 = .ok (.aload_n 0, 1) := by decide +kernel
theorem dX4_firstOf_20 : decode cX4_firstOf 20 = .ok (.getfield 21, 3) := by decide +kernel
theorem dX4_firstOf_23 : decode cX4_firstOf 23 = .ok (.iload 4, 2) := by decide +kernel
theorem dX4_firstOf_25 : decode cX4_firstOf 25 = .ok (.iaload, 1) := by decide +kernel
theorem dX4_firstOf_26 : decode cX4_firstOf 26 = .ok (.istore 5, 2) := by decide +kernel
theorem dX4_firstOf_28 : decode cX4_firstOf 28 = .ok (.aload_n 0, 1) := by decide +kernel
theorem dX4_firstOf_29 : decode cX4_firstOf 29 = .ok (.getfield 24, 3) := by decide +kernel
theorem dX4_firstOf_32 : decode cX4_firstOf 32 = .ok (.getfield 50, 3) := by decide +kernel
theorem dX4_firstOf_35 : decode cX4_firstOf 35 = .ok (.iload 5, 2) := by decide +kernel
theorem dX4_firstOf_37 : decode cX4_firstOf 37 = .ok (.iaload, 1) := by decide +kernel
theorem dX4_firstOf_38 : decode cX4_firstOf 38 = .ok (.iload_n 2, 1) := by decide +kernel
theorem dX4_firstOf_39 : decode cX4_firstOf 39 = .ok (.if_icmp .le 6, 3) := by decide +kernel
theorem dX4_firstOf_42 : decode cX4_firstOf 42 = .ok (.goto 29, 3) := by decide +kernel
theorem dX4_firstOf_45 : decode cX4_firstOf 45 = .ok (.iload_n 3, 1) := by decide +kernel
theorem dX4_firstOf_46 : decode cX4_firstOf 46 = .ok (.aload_n 0, 1) := by decide +kernel
theorem dX4_firstOf_47 : decode cX4_firstOf 47 = .ok (.getfield 24, 3) := by decide +kernel
theorem dX4_firstOf_50 : decode cX4_firstOf 50 = .ok (.getfield 44, 3) := by decide +kernel
theorem dX4_firstOf_53 : decode cX4_firstOf 53 = .ok (.iload 5, 2) := by decide +kernel
theorem dX4_firstOf_55 : decode cX4_firstOf 55 = .ok (.iaload, 1) := by decide +kernel
theorem dX4_firstOf_56 : decode cX4_firstOf 56 = .ok (.ishr, 1) := by decide +kernel
theorem dX4_firstOf_57 : decode cX4_firstOf 57 = .ok (.iconst 1, 1) := by decide +kernel
theorem dX4_firstOf_58 : decode cX4_firstOf 58 = .ok (.iand, 1) := by decide +kernel
theorem dX4_firstOf_59 : decode cX4_firstOf 59 = .ok (.ifCond .eq 6, 3) := by decide +kernel
theorem dX4_firstOf_62 : decode cX4_firstOf 62 = .ok (.iload 5, 2) := by decide +kernel
theorem dX4_firstOf_64 : decode cX4_firstOf 64 = .ok (.ireturn, 1) := by decide +kernel
theorem dX4_firstOf_65 : decode cX4_firstOf 65 = .ok (.iinc 4 1, 3) := by decide +kernel
theorem dX4_firstOf_68 : decode cX4_firstOf 68 = .ok (.goto (-60), 3) := by decide +kernel
theorem dX4_firstOf_71 : decode cX4_firstOf 71 = .ok (.iconst (-1), 1) := by decide +kernel
theorem dX4_firstOf_72 : decode cX4_firstOf 72 = .ok (.ireturn, 1) := by decide +kernel
set_option maxRecDepth 100000 in
theorem t_Lv_firstOf_L8 (hC : CX z ad x cX4_firstOf RX4 6 (some .int)) (hR : x.2.2.1 = rmk 1 0 0) (τ : XS) (n : Nat) (a1 : Int32) (a2 : Int32) (a3 : Int32) (a4 : Int32) : AT z x 6 (wX z σ) rI (eqA ad) 0 0 0 0 ad 8 [(0, .ref 49), (1, .int a1), (2, .int a2), (3, .int a3), (4, .int a4)] [] τ ((Lv_firstOf_L8 n τ a1 a2 a3 a4).map fun r => (r, τ)) := by
  revert a1 a2 a3 a4
  show ∀ (a1 : Int32) (a2 : Int32) (a3 : Int32) (a4 : Int32), AT z x 6 (wX z σ) rI (eqA ad) 0 0 0 0 ad 8 [(0, .ref 49), (1, .int a1), (2, .int a2), (3, .int a3), (4, .int a4)] [] τ ((Lv_firstOf_L8_r τ n a1 a2 a3 a4).map fun r => (r, τ))
  induction n with
  | zero => intro a1 a2 a3 a4; exact ap_none
  | succ n hk_8 =>
    intro a1 a2 a3 a4
    unfold Lv_firstOf_L8_r
    refine at_iload (j := 4) hC rfl dX4_firstOf_8 ?_
    refine at_aload_n (j := 0) hC rfl rfl dX4_firstOf_10 ?_
    refine gf_X4_18 hC dX4_firstOf_11 ?_
    refine at_iload_n (j := 1) hC rfl rfl dX4_firstOf_14 ?_
    refine ap_iald hC 52 dX4_firstOf_15 cl_52 (fun v2 => ?_)
    refine ap_icmp_ge (tgt := 71) hC dX4_firstOf_16 rfl (fun _ => ?_) (fun _ => ?_)
    · refine at_iconst hC ic_m1 dX4_firstOf_71 ?_
      exact at_iret (F := eqA ad) (ra := rI) hC dX4_firstOf_72 rfl (Nat.le_refl 0) (Nat.le_refl 0) rfl
    · refine at_aload_n (j := 0) hC rfl rfl dX4_firstOf_19 ?_
      refine gf_X4_21 hC dX4_firstOf_20 ?_
      refine at_iload (j := 4) hC rfl dX4_firstOf_23 ?_
      refine ap_iald hC 53 dX4_firstOf_25 cl_53 (fun v3 => ?_)
      refine at_istore (lv' := [(5, .int v3), (0, .ref 49), (1, .int a1), (2, .int a2), (3, .int a3), (4, .int a4)]) hC dX4_firstOf_26 (by decide) rfl ?_
      refine at_aload_n (j := 1) hC rfl rfl dX4_firstOf_28 ?_
      refine gf_X4_24 hC dX4_firstOf_29 ?_
      refine gf_X4_50 hC dX4_firstOf_32 ?_
      refine at_iload (j := 0) hC rfl dX4_firstOf_35 ?_
      refine ap_iald hC 45 dX4_firstOf_37 cl_45 (fun v4 => ?_)
      refine at_iload_n (j := 3) hC rfl rfl dX4_firstOf_38 ?_
      refine ap_icmp_le (tgt := 45) hC dX4_firstOf_39 rfl (fun _ => ?_) (fun _ => ?_)
      · refine at_iload_n (j := 4) hC rfl rfl dX4_firstOf_45 ?_
        refine at_aload_n (j := 1) hC rfl rfl dX4_firstOf_46 ?_
        refine gf_X4_24 hC dX4_firstOf_47 ?_
        refine gf_X4_44 hC dX4_firstOf_50 ?_
        refine at_iload (j := 0) hC rfl dX4_firstOf_53 ?_
        refine ap_iald hC 42 dX4_firstOf_55 cl_42 (fun v5 => ?_)
        refine at_ishr hC dX4_firstOf_56 ?_
        refine at_iconst hC ic_1 dX4_firstOf_57 ?_
        refine at_iand hC dX4_firstOf_58 ?_
        refine ap_if_eq (tgt := 65) hC dX4_firstOf_59 rfl (fun _ => ?_) (fun _ => ?_)
        · refine at_iinc (j := 5) (v := a4 + 1) (lv' := [(4, .int (a4 + 1)), (5, .int v3), (0, .ref 49), (1, .int a1), (2, .int a2), (3, .int a3)]) hC dX4_firstOf_65 rfl rfl (by decide) rfl ?_
          refine at_goto (tgt := 8) hC dX4_firstOf_68 rfl ?_
          refine at_drop (lv' := [(0, .ref 49), (1, .int a1), (2, .int a2), (3, .int a3), (4, .int (a4 + 1))]) [2, 3, 4, 5, 0] rfl ?_
          exact hk_8 a1 a2 a3 (a4 + 1)
        · refine at_iload (j := 0) hC rfl dX4_firstOf_62 ?_
          exact at_iret (F := eqA ad) (ra := rI) hC dX4_firstOf_64 rfl (Nat.le_refl 0) (Nat.le_refl 0) rfl
      · refine at_goto (tgt := 71) hC dX4_firstOf_42 rfl ?_
        refine at_iconst hC ic_m1 dX4_firstOf_71 ?_
        exact at_iret (F := eqA ad) (ra := rI) hC dX4_firstOf_72 rfl (Nat.le_refl 0) (Nat.le_refl 0) rfl
set_option maxRecDepth 100000 in
theorem c_Lv_firstOf (τ : XS) (p0 : Int32) (p1 : Int32) (p2 : Int32) : Ct z (wX z σ) rI eqA yX4_firstOf cX4_firstOf 6 (some .int) 1 0 0 [.ref 49, .int p0, .int p1, .int p2] τ ((Lv_firstOf τ p0 p1 p2).map fun r => (r, τ)) := by
  refine Ct.of (by decide) (Nat.le_of_ble_eq_true rfl) (fun ad x hC hR _ => ?_)
  show AT z x 6 (wX z σ) rI (eqA ad) 0 0 0 0 ad 0 [(0, .ref 49), (1, .int p0), (2, .int p1), (3, .int p2)] [] τ ((Lv_firstOf τ p0 p1 p2).map fun r => (r, τ))
  unfold Lv_firstOf
  refine at_aload_n (j := 0) hC rfl rfl dX4_firstOf_0 ?_
  refine gf_X4_15 hC dX4_firstOf_1 ?_
  refine at_iload_n (j := 1) hC rfl rfl dX4_firstOf_4 ?_
  refine ap_iald hC 51 dX4_firstOf_5 cl_51 (fun v1 => ?_)
  refine at_istore (lv' := [(4, .int v1), (0, .ref 49), (1, .int p0), (2, .int p1), (3, .int p2)]) hC dX4_firstOf_6 (by decide) rfl ?_
  refine at_drop (lv' := [(0, .ref 49), (1, .int p0), (2, .int p1), (3, .int p2), (4, .int v1)]) [1, 2, 3, 4, 0] rfl ?_
  exact t_Lv_firstOf_L8 hC hR τ 100000 p0 p1 p2 v1
theorem dX4_standing_0 : decode cX4_standing 0 = .ok (.aload_n 0, 1) := by decide +kernel
theorem dX4_standing_1 : decode cX4_standing 1 = .ok (.iload_n 1, 1) := by decide +kernel
theorem dX4_standing_2 : decode cX4_standing 2 = .ok (.iload_n 2, 1) := by decide +kernel
theorem dX4_standing_3 : decode cX4_standing 3 = .ok (.invokevirtual 73, 3) := by decide +kernel
theorem dX4_standing_6 : decode cX4_standing 6 = .ok (.ifCond .ne 5, 3) := by decide +kernel
theorem dX4_standing_9 : decode cX4_standing 9 = .ok (.iconst 0, 1) := by decide +kernel
theorem dX4_standing_10 : decode cX4_standing 10 = .ok (.ireturn, 1) := by decide +kernel
theorem dX4_standing_11 : decode cX4_standing 11 = .ok (.aload_n 0, 1) := by decide +kernel
theorem dX4_standing_12 : decode cX4_standing 12 = .ok (.iload_n 1, 1) := by decide +kernel
theorem dX4_standing_13 : decode cX4_standing 13 = .ok (.iload_n 2, 1) := by decide +kernel
theorem dX4_standing_14 : decode cX4_standing 14 = .ok (.bipush 52, 2) := by decide +kernel
theorem dX4_standing_16 : decode cX4_standing 16 = .ok (.invokevirtual 69, 3) := by decide +kernel
theorem dX4_standing_19 : decode cX4_standing 19 = .ok (.istore_n 3, 1) := by decide +kernel
theorem dX4_standing_20 : decode cX4_standing 20 = .ok (.iload_n 3, 1) := by decide +kernel
theorem dX4_standing_21 : decode cX4_standing 21 = .ok (.ifCond .ge 5, 3) := by decide +kernel
theorem dX4_standing_24 : decode cX4_standing 24 = .ok (.iconst 0, 1) := by decide +kernel
theorem dX4_standing_25 : decode cX4_standing 25 = .ok (.ireturn, 1) := by decide +kernel
theorem dX4_standing_26 : decode cX4_standing 26 = .ok (.aload_n 0, 1) := by decide +kernel
theorem dX4_standing_27 : decode cX4_standing 27 = .ok (.getfield 24, 3) := by decide +kernel
theorem dX4_standing_30 : decode cX4_standing 30 = .ok (.getfield 44, 3) := by decide +kernel
theorem dX4_standing_33 : decode cX4_standing 33 = .ok (.iload_n 3, 1) := by decide +kernel
theorem dX4_standing_34 : decode cX4_standing 34 = .ok (.iaload, 1) := by decide +kernel
theorem dX4_standing_35 : decode cX4_standing 35 = .ok (.iconst 4, 1) := by decide +kernel
theorem dX4_standing_36 : decode cX4_standing 36 = .ok (.if_icmp .ne 5, 3) := by decide +kernel
theorem dX4_standing_39 : decode cX4_standing 39 = .ok (.iconst 2, 1) := by decide +kernel
theorem dX4_standing_40 : decode cX4_standing 40 = .ok (.ireturn, 1) := by decide +kernel
theorem dX4_standing_41 : decode cX4_standing 41 = .ok (.aload_n 0, 1) := by decide +kernel
theorem dX4_standing_42 : decode cX4_standing 42 = .ok (.iload_n 1, 1) := by decide +kernel
theorem dX4_standing_43 : decode cX4_standing 43 = .ok (.iload_n 2, 1) := by decide +kernel
theorem dX4_standing_44 : decode cX4_standing 44 = .ok (.iconst 4, 1) := by decide +kernel
theorem dX4_standing_45 : decode cX4_standing 45 = .ok (.invokevirtual 76, 3) := by decide +kernel
theorem dX4_standing_48 : decode cX4_standing 48 = .ok (.ifCond .ge 7, 3) := by decide +kernel
theorem dX4_standing_51 : decode cX4_standing 51 = .ok (.iconst 0, 1) := by decide +kernel
theorem dX4_standing_52 : decode cX4_standing 52 = .ok (.goto 4, 3) := by decide +kernel
theorem dX4_standing_55 : decode cX4_standing 55 = .ok (.iconst 1, 1) := by decide +kernel
theorem dX4_standing_56 : decode cX4_standing 56 = .ok (.ireturn, 1) := by decide +kernel
set_option maxRecDepth 100000 in
theorem c_Lv_standing (τ : XS) (p0 : Int32) (p1 : Int32) : Ct z (wX z σ) rI eqA yX4_standing cX4_standing 4 (some .int) 2 0 0 [.ref 49, .int p0, .int p1] τ ((Lv_standing τ p0 p1).map fun r => (r, τ)) := by
  refine Ct.of (by decide) (Nat.le_of_ble_eq_true rfl) (fun ad x hC hR _ => ?_)
  show AT z x 4 (wX z σ) rI (eqA ad) 0 0 0 0 ad 0 [(0, .ref 49), (1, .int p0), (2, .int p1)] [] τ ((Lv_standing τ p0 p1).map fun r => (r, τ))
  unfold Lv_standing
  refine at_aload_n (j := 0) hC rfl rfl dX4_standing_0 ?_
  refine at_iload_n (j := 1) hC rfl rfl dX4_standing_1 ?_
  refine at_iload_n (j := 2) hC rfl rfl dX4_standing_2 ?_
  refine ap_callVI hC hR lk_X4_73 (c_Lv_livesOn τ p0 p1) dX4_standing_3 recX4 rfl rfl ⟨by decide, by decide⟩ (Nat.le_of_ble_eq_true rfl) ⟨Nat.le_refl 0, Nat.le_refl 0⟩ (fun r1 _ => ?_)
  refine ap_if_ne (tgt := 11) hC dX4_standing_6 rfl (fun _ => ?_) (fun _ => ?_)
  · refine at_aload_n (j := 0) hC rfl rfl dX4_standing_11 ?_
    refine at_iload_n (j := 1) hC rfl rfl dX4_standing_12 ?_
    refine at_iload_n (j := 2) hC rfl rfl dX4_standing_13 ?_
    refine at_bipush hC bi_52 dX4_standing_14 ?_
    refine ap_callVI hC hR lk_X4_69 (c_Lv_lastOf τ p0 p1 52) dX4_standing_16 recX4 rfl rfl ⟨by decide, by decide⟩ (Nat.le_of_ble_eq_true rfl) ⟨Nat.le_refl 0, Nat.le_refl 0⟩ (fun r2 _ => ?_)
    refine at_istore_n (lv' := [(3, .int r2), (0, .ref 49), (1, .int p0), (2, .int p1)]) hC rfl dX4_standing_19 (by decide) rfl ?_
    refine at_iload_n (j := 0) hC rfl rfl dX4_standing_20 ?_
    refine ap_if_ge (tgt := 26) hC dX4_standing_21 rfl (fun _ => ?_) (fun _ => ?_)
    · refine at_aload_n (j := 1) hC rfl rfl dX4_standing_26 ?_
      refine gf_X4_24 hC dX4_standing_27 ?_
      refine gf_X4_44 hC dX4_standing_30 ?_
      refine at_iload_n (j := 0) hC rfl rfl dX4_standing_33 ?_
      refine ap_iald hC 42 dX4_standing_34 cl_42 (fun v3 => ?_)
      refine at_iconst hC ic_4 dX4_standing_35 ?_
      refine ap_icmp_ne (tgt := 41) hC dX4_standing_36 rfl (fun _ => ?_) (fun _ => ?_)
      · refine at_aload_n (j := 1) hC rfl rfl dX4_standing_41 ?_
        refine at_iload_n (j := 2) hC rfl rfl dX4_standing_42 ?_
        refine at_iload_n (j := 3) hC rfl rfl dX4_standing_43 ?_
        refine at_iconst hC ic_4 dX4_standing_44 ?_
        refine ap_callVI hC hR lk_X4_76 (c_Lv_firstOf τ p0 p1 4) dX4_standing_45 recX4 rfl rfl ⟨by decide, by decide⟩ (Nat.le_of_ble_eq_true rfl) ⟨Nat.le_refl 0, Nat.le_refl 0⟩ (fun r4 _ => ?_)
        refine ap_if_ge (tgt := 55) hC dX4_standing_48 rfl (fun _ => ?_) (fun _ => ?_)
        · refine at_iconst hC ic_1 dX4_standing_55 ?_
          exact at_iret (F := eqA ad) (ra := rI) hC dX4_standing_56 rfl (Nat.le_refl 0) (Nat.le_refl 0) rfl
        · refine at_iconst hC ic_0 dX4_standing_51 ?_
          refine at_goto (tgt := 56) hC dX4_standing_52 rfl ?_
          exact at_iret (F := eqA ad) (ra := rI) hC dX4_standing_56 rfl (Nat.le_refl 0) (Nat.le_refl 0) rfl
      · refine at_iconst hC ic_2 dX4_standing_39 ?_
        exact at_iret (F := eqA ad) (ra := rI) hC dX4_standing_40 rfl (Nat.le_refl 0) (Nat.le_refl 0) rfl
    · refine at_iconst hC ic_0 dX4_standing_24 ?_
      exact at_iret (F := eqA ad) (ra := rI) hC dX4_standing_25 rfl (Nat.le_refl 0) (Nat.le_refl 0) rfl
  · refine at_iconst hC ic_0 dX4_standing_9 ?_
    exact at_iret (F := eqA ad) (ra := rI) hC dX4_standing_10 rfl (Nat.le_refl 0) (Nat.le_refl 0) rfl
theorem dX4_rateOf_0 : decode cX4_rateOf 0 = .ok (.aload_n 0, 1) := by decide +kernel
theorem dX4_rateOf_1 : decode cX4_rateOf 1 = .ok (.iload_n 1, 1) := by decide +kernel
theorem dX4_rateOf_2 : decode cX4_rateOf 2 = .ok (.iload_n 2, 1) := by decide +kernel
theorem dX4_rateOf_3 : decode cX4_rateOf 3 = .ok (.bipush 12, 2) := by decide +kernel
theorem dX4_rateOf_5 : decode cX4_rateOf 5 = .ok (.invokevirtual 69, 3) := by decide +kernel
theorem dX4_rateOf_8 : decode cX4_rateOf 8 = .ok (.istore_n 3, 1) := by decide +kernel
theorem dX4_rateOf_9 : decode cX4_rateOf 9 = .ok (.iload_n 3, 1) := by decide +kernel
theorem dX4_rateOf_10 : decode cX4_rateOf 10 = .ok (.ifCond .ge 5, 3) := by decide +kernel
theorem dX4_rateOf_13 : decode cX4_rateOf 13 = .ok (.iconst (-1), 1) := by decide +kernel
theorem dX4_rateOf_14 : decode cX4_rateOf 14 = .ok (.ireturn, 1) := by decide +kernel
theorem dX4_rateOf_15 : decode cX4_rateOf 15 = .ok (.aload_n 0, 1) := by decide +kernel
theorem dX4_rateOf_16 : decode cX4_rateOf 16 = .ok (.getfield 24, 3) := by decide +kernel
theorem dX4_rateOf_19 : decode cX4_rateOf 19 = .ok (.getfield 44, 3) := by decide +kernel
theorem dX4_rateOf_22 : decode cX4_rateOf 22 = .ok (.iload_n 3, 1) := by decide +kernel
theorem dX4_rateOf_23 : decode cX4_rateOf 23 = .ok (.iaload, 1) := by decide +kernel
theorem dX4_rateOf_24 : decode cX4_rateOf 24 = .ok (.iconst 2, 1) := by decide +kernel
theorem dX4_rateOf_25 : decode cX4_rateOf 25 = .ok (.if_icmp .ne 15, 3) := by decide +kernel
theorem dX4_rateOf_28 : decode cX4_rateOf 28 = .ok (.aload_n 0, 1) := by decide +kernel
theorem dX4_rateOf_29 : decode cX4_rateOf 29 = .ok (.getfield 24, 3) := by decide +kernel
theorem dX4_rateOf_32 : decode cX4_rateOf 32 = .ok (.getfield 79, 3) := by decide +kernel
theorem dX4_rateOf_35 : decode cX4_rateOf 35 = .ok (.iload_n 3, 1) := by decide +kernel
theorem dX4_rateOf_36 : decode cX4_rateOf 36 = .ok (.iaload, 1) := by decide +kernel
theorem dX4_rateOf_37 : decode cX4_rateOf 37 = .ok (.goto 12, 3) := by decide +kernel
theorem dX4_rateOf_40 : decode cX4_rateOf 40 = .ok (.aload_n 0, 1) := by decide +kernel
theorem dX4_rateOf_41 : decode cX4_rateOf 41 = .ok (.getfield 24, 3) := by decide +kernel
theorem dX4_rateOf_44 : decode cX4_rateOf 44 = .ok (.getfield 53, 3) := by decide +kernel
theorem dX4_rateOf_47 : decode cX4_rateOf 47 = .ok (.iload_n 3, 1) := by decide +kernel
theorem dX4_rateOf_48 : decode cX4_rateOf 48 = .ok (.iaload, 1) := by decide +kernel
theorem dX4_rateOf_49 : decode cX4_rateOf 49 = .ok (.ireturn, 1) := by decide +kernel
set_option maxRecDepth 100000 in
theorem c_Lv_rateOf (τ : XS) (p0 : Int32) (p1 : Int32) : Ct z (wX z σ) rI eqA yX4_rateOf cX4_rateOf 4 (some .int) 2 0 0 [.ref 49, .int p0, .int p1] τ ((Lv_rateOf τ p0 p1).map fun r => (r, τ)) := by
  refine Ct.of (by decide) (Nat.le_of_ble_eq_true rfl) (fun ad x hC hR _ => ?_)
  show AT z x 4 (wX z σ) rI (eqA ad) 0 0 0 0 ad 0 [(0, .ref 49), (1, .int p0), (2, .int p1)] [] τ ((Lv_rateOf τ p0 p1).map fun r => (r, τ))
  unfold Lv_rateOf
  refine at_aload_n (j := 0) hC rfl rfl dX4_rateOf_0 ?_
  refine at_iload_n (j := 1) hC rfl rfl dX4_rateOf_1 ?_
  refine at_iload_n (j := 2) hC rfl rfl dX4_rateOf_2 ?_
  refine at_bipush hC bi_12 dX4_rateOf_3 ?_
  refine ap_callVI hC hR lk_X4_69 (c_Lv_lastOf τ p0 p1 12) dX4_rateOf_5 recX4 rfl rfl ⟨by decide, by decide⟩ (Nat.le_of_ble_eq_true rfl) ⟨Nat.le_refl 0, Nat.le_refl 0⟩ (fun r1 _ => ?_)
  refine at_istore_n (lv' := [(3, .int r1), (0, .ref 49), (1, .int p0), (2, .int p1)]) hC rfl dX4_rateOf_8 (by decide) rfl ?_
  refine at_iload_n (j := 0) hC rfl rfl dX4_rateOf_9 ?_
  refine ap_if_ge (tgt := 15) hC dX4_rateOf_10 rfl (fun _ => ?_) (fun _ => ?_)
  · refine at_aload_n (j := 1) hC rfl rfl dX4_rateOf_15 ?_
    refine gf_X4_24 hC dX4_rateOf_16 ?_
    refine gf_X4_44 hC dX4_rateOf_19 ?_
    refine at_iload_n (j := 0) hC rfl rfl dX4_rateOf_22 ?_
    refine ap_iald hC 42 dX4_rateOf_23 cl_42 (fun v2 => ?_)
    refine at_iconst hC ic_2 dX4_rateOf_24 ?_
    refine ap_icmp_ne (tgt := 40) hC dX4_rateOf_25 rfl (fun _ => ?_) (fun _ => ?_)
    · refine at_aload_n (j := 1) hC rfl rfl dX4_rateOf_40 ?_
      refine gf_X4_24 hC dX4_rateOf_41 ?_
      refine gf_X4_53 hC dX4_rateOf_44 ?_
      refine at_iload_n (j := 0) hC rfl rfl dX4_rateOf_47 ?_
      refine ap_iald hC 44 dX4_rateOf_48 cl_44 (fun v3 => ?_)
      exact at_iret (F := eqA ad) (ra := rI) hC dX4_rateOf_49 rfl (Nat.le_refl 0) (Nat.le_refl 0) rfl
    · refine at_aload_n (j := 1) hC rfl rfl dX4_rateOf_28 ?_
      refine gf_X4_24 hC dX4_rateOf_29 ?_
      refine gf_X4_79 hC dX4_rateOf_32 ?_
      refine at_iload_n (j := 0) hC rfl rfl dX4_rateOf_35 ?_
      refine ap_iald hC 46 dX4_rateOf_36 cl_46 (fun v4 => ?_)
      refine at_goto (tgt := 49) hC dX4_rateOf_37 rfl ?_
      exact at_iret (F := eqA ad) (ra := rI) hC dX4_rateOf_49 rfl (Nat.le_refl 0) (Nat.le_refl 0) rfl
  · refine at_iconst hC ic_m1 dX4_rateOf_13 ?_
    exact at_iret (F := eqA ad) (ra := rI) hC dX4_rateOf_14 rfl (Nat.le_refl 0) (Nat.le_refl 0) rfl
end G
