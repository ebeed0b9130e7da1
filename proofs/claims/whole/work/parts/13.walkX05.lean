section G
variable {z : ZZ} {x : XX} {ad : Nat → Nat} {σ : MS}
theorem dX2_duesOf_0 : decode cX2_duesOf 0 = .ok (.iload_n 2, 1) := by decide +kernel
theorem dX2_duesOf_1 : decode cX2_duesOf 1 = .ok (.bipush 100, 2) := by decide +kernel
theorem dX2_duesOf_3 : decode cX2_duesOf 3 = .ok (.imul, 1) := by decide +kernel
theorem dX2_duesOf_4 : decode cX2_duesOf 4 = .ok (.istore_n 3, 1) := by decide +kernel
theorem dX2_duesOf_5 : decode cX2_duesOf 5 = .ok (.aload_n 0, 1) := by decide +kernel
theorem dX2_duesOf_6 : decode cX2_duesOf 6 = .ok (.getfield 19, 3) := by decide +kernel
theorem dX2_duesOf_9 : decode cX2_duesOf 9 = .ok (.iload_n 1, 1) := by decide +kernel
theorem dX2_duesOf_10 : decode cX2_duesOf 10 = .ok (.iload_n 3, 1) := by decide +kernel
theorem dX2_duesOf_11 : decode cX2_duesOf 11 = .ok (.invokevirtual 63, 3) := by decide +kernel
theorem dX2_duesOf_14 : decode cX2_duesOf 14 = .ok (.iconst 1, 1) := by decide +kernel
theorem dX2_duesOf_15 : decode cX2_duesOf 15 = .ok (.if_icmp .ne 14, 3) := by decide +kernel
theorem dX2_duesOf_18 : decode cX2_duesOf 18 = .ok (.aload_n 0, 1) := by decide +kernel
theorem dX2_duesOf_19 : decode cX2_duesOf 19 = .ok (.iconst 0, 1) := by decide +kernel
theorem dX2_duesOf_20 : decode cX2_duesOf 20 = .ok (.iload_n 1, 1) := by decide +kernel
theorem dX2_duesOf_21 : decode cX2_duesOf 21 = .ok (.iload_n 3, 1) := by decide +kernel
theorem dX2_duesOf_22 : decode cX2_duesOf 22 = .ok (.invokevirtual 67, 3) := by decide +kernel
theorem dX2_duesOf_25 : decode cX2_duesOf 25 = .ok (.i2l, 1) := by decide +kernel
theorem dX2_duesOf_26 : decode cX2_duesOf 26 = .ok (.goto 4, 3) := by decide +kernel
theorem dX2_duesOf_29 : decode cX2_duesOf 29 = .ok (.lconst 0, 1) := by decide +kernel
theorem dX2_duesOf_30 : decode cX2_duesOf 30 = .ok (.lreturn, 1) := by decide +kernel
set_option maxRecDepth 100000 in
theorem c_Cn_duesOf (τ : XS) (p0 : Int32) (p1 : Int32) : Ct z (wX z σ) rJ eqA yX2_duesOf cX2_duesOf 4 (some .long) 8 0 0 [.ref 76, .int p0, .int p1] τ (Cn_duesOf τ p0 p1) := by
  refine Ct.of (by decide) (Nat.le_of_ble_eq_true rfl) (fun ad x hC hR _ => ?_)
  show AT z x 4 (wX z σ) rJ (eqA ad) 0 0 0 0 ad 0 [(0, .ref 76), (1, .int p0), (2, .int p1)] [] τ (Cn_duesOf τ p0 p1)
  unfold Cn_duesOf
  refine at_iload_n (j := 2) hC rfl rfl dX2_duesOf_0 ?_
  refine at_bipush hC bi_100 dX2_duesOf_1 ?_
  refine at_imul hC dX2_duesOf_3 ?_
  refine at_istore_n (lv' := [(3, .int (p1 * 100)), (0, .ref 76), (1, .int p0), (2, .int p1)]) hC rfl dX2_duesOf_4 (by decide) rfl ?_
  refine at_aload_n (j := 1) hC rfl rfl dX2_duesOf_5 ?_
  refine gf_X2_19 hC dX2_duesOf_6 ?_
  refine at_iload_n (j := 2) hC rfl rfl dX2_duesOf_9 ?_
  refine at_iload_n (j := 0) hC rfl rfl dX2_duesOf_10 ?_
  refine at_callVpI hC hR lk_X2_63 (c_Lv_standing τ p0 (p1 * 100)) dX2_duesOf_11 recX4 rfl rfl ⟨by decide, by decide⟩ (Nat.le_of_ble_eq_true rfl) ⟨Nat.le_refl 0, Nat.le_refl 0⟩ (fun r1 _ => ?_)
  refine at_iconst hC ic_1 dX2_duesOf_14 ?_
  refine at_icmp_ne (tgt := 29) hC dX2_duesOf_15 rfl (fun _ => ?_) (fun _ => ?_)
  · refine at_lconst hC lc_0 dX2_duesOf_29 ?_
    exact at_lret (F := eqA ad) (ra := rJ) hC dX2_duesOf_30 rfl (Nat.le_refl 0) (Nat.le_refl 0) rfl
  · refine at_aload_n (j := 1) hC rfl rfl dX2_duesOf_18 ?_
    refine at_iconst hC ic_0 dX2_duesOf_19 ?_
    refine at_iload_n (j := 2) hC rfl rfl dX2_duesOf_20 ?_
    refine at_iload_n (j := 0) hC rfl rfl dX2_duesOf_21 ?_
    refine at_callVI hC hR lk_X2_67 (c_Cn_comesTo τ 0 p0 (p1 * 100)) dX2_duesOf_22 recX2 rfl rfl ⟨by decide, by decide⟩ (Nat.le_of_ble_eq_true rfl) ⟨Nat.le_refl 0, Nat.le_refl 0⟩ (fun r2 r2s _ => ?_)
    refine at_i2l hC dX2_duesOf_25 ?_
    refine at_goto (tgt := 30) hC dX2_duesOf_26 rfl ?_
    exact at_lret (F := eqA ad) (ra := rJ) hC dX2_duesOf_30 rfl (Nat.le_refl 0) (Nat.le_refl 0) rfl
theorem dX2_taxOf_0 : decode cX2_taxOf 0 = .ok (.lconst 0, 1) := by decide +kernel
theorem dX2_taxOf_1 : decode cX2_taxOf 1 = .ok (.lstore_n 3, 1) := by decide +kernel
theorem dX2_taxOf_2 : decode cX2_taxOf 2 = .ok (.iconst 1, 1) := by decide +kernel
theorem dX2_taxOf_3 : decode cX2_taxOf 3 = .ok (.istore 5, 2) := by decide +kernel
theorem dX2_taxOf_5 : decode cX2_taxOf 5 = .ok (.aload_n 0, 1) := by decide +kernel
theorem dX2_taxOf_6 : decode cX2_taxOf 6 = .ok (.getfield 19, 3) := by decide +kernel
theorem dX2_taxOf_9 : decode cX2_taxOf 9 = .ok (.getfield 121, 3) := by decide +kernel
theorem dX2_taxOf_12 : decode cX2_taxOf 12 = .ok (.iload_n 1, 1) := by decide +kernel
theorem dX2_taxOf_13 : decode cX2_taxOf 13 = .ok (.iaload, 1) := by decide +kernel
theorem dX2_taxOf_14 : decode cX2_taxOf 14 = .ok (.istore 6, 2) := by decide +kernel
theorem dX2_taxOf_16 : decode cX2_taxOf 16 = .ok (.iload 6, 2) := by decide +kernel
theorem dX2_taxOf_18 : decode cX2_taxOf 18 = .ok (.aload_n 0, 1) := by decide +kernel
theorem dX2_taxOf_19 : decode cX2_taxOf 19 = .ok (.getfield 19, 3) := by decide +kernel
theorem dX2_taxOf_22 : decode cX2_taxOf 22 = .ok (.getfield 124, 3) := by decide +kernel
theorem dX2_taxOf_25 : decode cX2_taxOf 25 = .ok (.iload_n 1, 1) := by decide +kernel
theorem dX2_taxOf_26 : decode cX2_taxOf 26 = .ok (.iaload, 1) := by decide +kernel
theorem dX2_taxOf_27 : decode cX2_taxOf 27 = .ok (.if_icmp .ge 93, 3) := by decide +kernel
theorem dX2_taxOf_30 : decode cX2_taxOf 30 = .ok (.aload_n 0, 1) := by decide +kernel
theorem dX2_taxOf_31 : decode cX2_taxOf 31 = .ok (.getfield 19, 3) := by decide +kernel
theorem dX2_taxOf_34 : decode cX2_taxOf 34 = .ok (.getfield 127, 3) := by decide +kernel
theorem dX2_taxOf_37 : decode cX2_taxOf 37 = .ok (.iload 6, 2) := by decide +kernel
theorem dX2_taxOf_39 : decode cX2_taxOf 39 = .ok (.iaload, 1) := by decide +kernel
theorem dX2_taxOf_40 : decode cX2_taxOf 40 = .ok (.istore 7, 2) := by decide +kernel
theorem dX2_taxOf_42 : decode cX2_taxOf 42 = .ok (.aload_n 0, 1) := by decide +kernel
theorem dX2_taxOf_43 : decode cX2_taxOf 43 = .ok (.getfield 15, 3) := by decide +kernel
theorem dX2_taxOf_46 : decode cX2_taxOf 46 = .ok (.getfield 130, 3) := by decide +kernel
theorem dX2_taxOf_49 : decode cX2_taxOf 49 = .ok (.iload 7, 2) := by decide +kernel
theorem dX2_taxOf_51 : decode cX2_taxOf 51 = .ok (.iaload, 1) := by decide +kernel
theorem dX2_taxOf_52 : decode cX2_taxOf 52 = .ok (.iconst 1, 1) := by decide +kernel
theorem dX2_taxOf_53 : decode cX2_taxOf 53 = .ok (.if_icmp .eq 6, 3) := by decide +kernel
theorem dX2_taxOf_56 : decode cX2_taxOf 56 = .ok (.goto 58, 3) := by decide +kernel
theorem dX2_taxOf_59 : decode cX2_taxOf 59 = .ok (.aload_n 0, 1) := by decide +kernel
theorem dX2_taxOf_60 : decode cX2_taxOf 60 = .ok (.getfield 15, 3) := by decide +kernel
theorem dX2_taxOf_63 : decode cX2_taxOf 63 = .ok (.getfield 108, 3) := by decide +kernel
theorem dX2_taxOf_66 : decode cX2_taxOf 66 = .ok (.iload 7, 2) := by decide +kernel
theorem dX2_taxOf_68 : decode cX2_taxOf 68 = .ok (.iaload, 1) := by decide +kernel
theorem dX2_taxOf_69 : decode cX2_taxOf 69 = .ok (.istore 8, 2) := by decide +kernel
theorem dX2_taxOf_71 : decode cX2_taxOf 71 = .ok (.iload 5, 2) := by decide +kernel
theorem dX2_taxOf_73 : decode cX2_taxOf 73 = .ok (.ifCond .ne 38, 3) := by decide +kernel
theorem dX2_taxOf_76 : decode cX2_taxOf 76 = .ok (.iload 8, 2) := by decide +kernel
theorem dX2_taxOf_78 : decode cX2_taxOf 78 = .ok (.bipush 100, 2) := by decide +kernel
theorem dX2_taxOf_80 : decode cX2_taxOf 80 = .ok (.idiv, 1) := by decide +kernel
theorem dX2_taxOf_81 : decode cX2_taxOf 81 = .ok (.iload_n 2, 1) := by decide +kernel
theorem dX2_taxOf_82 : decode cX2_taxOf 82 = .ok (.if_icmp .ne 29, 3) := by decide +kernel
theorem dX2_taxOf_85 : decode cX2_taxOf 85 = .ok (.aload_n 0, 1) := by decide +kernel
theorem dX2_taxOf_86 : decode cX2_taxOf 86 = .ok (.getfield 19, 3) := by decide +kernel
theorem dX2_taxOf_89 : decode cX2_taxOf 89 = .ok (.iload_n 1, 1) := by decide +kernel
theorem dX2_taxOf_90 : decode cX2_taxOf 90 = .ok (.iload 8, 2) := by decide +kernel
theorem dX2_taxOf_92 : decode cX2_taxOf 92 = .ok (.invokevirtual 63, 3) := by decide +kernel
theorem dX2_taxOf_95 : decode cX2_taxOf 95 = .ok (.iconst 1, 1) := by decide +kernel
theorem dX2_taxOf_96 : decode cX2_taxOf 96 = .ok (.if_icmp .ne 15, 3) := by decide +kernel
theorem dX2_taxOf_99 : decode cX2_taxOf 99 = .ok (.lload_n 3, 1) := by decide +kernel
theorem dX2_taxOf_100 : decode cX2_taxOf 100 = .ok (.aload_n 0, 1) := by decide +kernel
theorem dX2_taxOf_101 : decode cX2_taxOf 101 = .ok (.iconst 3, 1) := by decide +kernel
theorem dX2_taxOf_102 : decode cX2_taxOf 102 = .ok (.iload_n 1, 1) := by decide +kernel
theorem dX2_taxOf_103 : decode cX2_taxOf 103 = .ok (.iload 8, 2) := by decide +kernel
theorem dX2_taxOf_105 : decode cX2_taxOf 105 = .ok (.invokevirtual 67, 3) := by decide +kernel
theorem dX2_taxOf_108 : decode cX2_taxOf 108 = .ok (.i2l, 1) := by decide +kernel
theorem dX2_taxOf_109 : decode cX2_taxOf 109 = .ok (.ladd, 1) := by decide +kernel
theorem dX2_taxOf_110 : decode cX2_taxOf 110 = .ok (.lstore_n 3, 1) := by decide +kernel
theorem dX2_taxOf_111 : decode cX2_taxOf 111 = .ok (.iconst 0, 1) := by decide +kernel
theorem dX2_taxOf_112 : decode cX2_taxOf 112 = .ok (.istore 5, 2) := by decide +kernel
theorem dX2_taxOf_114 : decode cX2_taxOf 114 = .ok (.iinc 6 1, 3) := by decide +kernel
theorem dX2_taxOf_117 : decode cX2_taxOf 117 = .ok (.goto (-101), 3) := by decide +kernel
theorem dX2_taxOf_120 : decode cX2_taxOf 120 = .ok (.lload_n 3, 1) := by decide +kernel
theorem dX2_taxOf_121 : decode cX2_taxOf 121 = .ok (.lreturn, 1) := by decide +kernel
set_option maxRecDepth 100000 in
theorem t_Cn_taxOf_J114 (hC : CX z ad x cX2_taxOf RX2 9 (some .long)) (hR : x.2.2.1 = rmk 8 0 0) (k_16 : XS → Int32 → Int32 → Int64 → Int32 → Int32 → Option (Int64 × XS)) (hk_16 : ∀ (τ : XS) (a1 : Int32) (a2 : Int32) (a3 : Int64) (a5 : Int32) (a6 : Int32), AT z x 9 (wX z σ) rJ (eqA ad) 0 0 0 0 ad 16 [(0, .ref 76), (1, .int a1), (2, .int a2), (3, .long a3), (5, .int a5), (6, .int a6)] [] τ (k_16 τ a1 a2 a3 a5 a6)) (τ : XS) (a1 : Int32) (a2 : Int32) (a3 : Int64) (a5 : Int32) (a6 : Int32) : AT z x 9 (wX z σ) rJ (eqA ad) 0 0 0 0 ad 114 [(0, .ref 76), (1, .int a1), (2, .int a2), (3, .long a3), (5, .int a5), (6, .int a6)] [] τ (Cn_taxOf_J114 k_16 τ a1 a2 a3 a5 a6) := by
  unfold Cn_taxOf_J114
  refine at_iinc (j := 5) (v := a6 + 1) (lv' := [(6, .int (a6 + 1)), (0, .ref 76), (1, .int a1), (2, .int a2), (3, .long a3), (5, .int a5)]) hC dX2_taxOf_114 rfl rfl (by decide) rfl ?_
  refine at_goto (tgt := 16) hC dX2_taxOf_117 rfl ?_
  refine at_drop (lv' := [(0, .ref 76), (1, .int a1), (2, .int a2), (3, .long a3), (5, .int a5), (6, .int (a6 + 1))]) [1, 2, 3, 4, 5, 0] rfl ?_
  exact hk_16 τ a1 a2 a3 a5 (a6 + 1)
set_option maxRecDepth 100000 in
theorem t_Cn_taxOf_J111 (hC : CX z ad x cX2_taxOf RX2 9 (some .long)) (hR : x.2.2.1 = rmk 8 0 0) (k_16 : XS → Int32 → Int32 → Int64 → Int32 → Int32 → Option (Int64 × XS)) (hk_16 : ∀ (τ : XS) (a1 : Int32) (a2 : Int32) (a3 : Int64) (a5 : Int32) (a6 : Int32), AT z x 9 (wX z σ) rJ (eqA ad) 0 0 0 0 ad 16 [(0, .ref 76), (1, .int a1), (2, .int a2), (3, .long a3), (5, .int a5), (6, .int a6)] [] τ (k_16 τ a1 a2 a3 a5 a6)) (τ : XS) (a1 : Int32) (a2 : Int32) (a3 : Int64) (a6 : Int32) : AT z x 9 (wX z σ) rJ (eqA ad) 0 0 0 0 ad 111 [(0, .ref 76), (1, .int a1), (2, .int a2), (3, .long a3), (6, .int a6)] [] τ (Cn_taxOf_J111 k_16 τ a1 a2 a3 a6) := by
  unfold Cn_taxOf_J111
  refine at_iconst hC ic_0 dX2_taxOf_111 ?_
  refine at_istore (lv' := [(5, .int 0), (0, .ref 76), (1, .int a1), (2, .int a2), (3, .long a3), (6, .int a6)]) hC dX2_taxOf_112 (by decide) rfl ?_
  refine at_drop (lv' := [(0, .ref 76), (1, .int a1), (2, .int a2), (3, .long a3), (5, .int 0), (6, .int a6)]) [1, 2, 3, 4, 0, 5] rfl ?_
  exact t_Cn_taxOf_J114 hC hR k_16 hk_16 τ a1 a2 a3 0 a6
set_option maxRecDepth 100000 in
theorem t_Cn_taxOf_L16 (hC : CX z ad x cX2_taxOf RX2 9 (some .long)) (hR : x.2.2.1 = rmk 8 0 0) (n : Nat) (τ : XS) (a1 : Int32) (a2 : Int32) (a3 : Int64) (a5 : Int32) (a6 : Int32) : AT z x 9 (wX z σ) rJ (eqA ad) 0 0 0 0 ad 16 [(0, .ref 76), (1, .int a1), (2, .int a2), (3, .long a3), (5, .int a5), (6, .int a6)] [] τ (Cn_taxOf_L16 n τ a1 a2 a3 a5 a6) := by
  revert τ a1 a2 a3 a5 a6
  show ∀ (τ : XS) (a1 : Int32) (a2 : Int32) (a3 : Int64) (a5 : Int32) (a6 : Int32), AT z x 9 (wX z σ) rJ (eqA ad) 0 0 0 0 ad 16 [(0, .ref 76), (1, .int a1), (2, .int a2), (3, .long a3), (5, .int a5), (6, .int a6)] [] τ (Cn_taxOf_L16_r n τ a1 a2 a3 a5 a6)
  induction n with
  | zero => intro τ a1 a2 a3 a5 a6; exact at_none
  | succ n hk_16 =>
    intro τ a1 a2 a3 a5 a6
    unfold Cn_taxOf_L16_r
    refine at_iload (j := 5) hC rfl dX2_taxOf_16 ?_
    refine at_aload_n (j := 0) hC rfl rfl dX2_taxOf_18 ?_
    refine gf_X2_19 hC dX2_taxOf_19 ?_
    refine gf_X2_124 hC dX2_taxOf_22 ?_
    refine at_iload_n (j := 1) hC rfl rfl dX2_taxOf_25 ?_
    refine at_iald hC 52 dX2_taxOf_26 cl_52 (fun v2 => ?_)
    refine at_icmp_ge (tgt := 120) hC dX2_taxOf_27 rfl (fun _ => ?_) (fun _ => ?_)
    · refine at_lload_n (j := 3) hC rfl rfl dX2_taxOf_120 ?_
      exact at_lret (F := eqA ad) (ra := rJ) hC dX2_taxOf_121 rfl (Nat.le_refl 0) (Nat.le_refl 0) rfl
    · refine at_aload_n (j := 0) hC rfl rfl dX2_taxOf_30 ?_
      refine gf_X2_19 hC dX2_taxOf_31 ?_
      refine gf_X2_127 hC dX2_taxOf_34 ?_
      refine at_iload (j := 5) hC rfl dX2_taxOf_37 ?_
      refine at_iald hC 53 dX2_taxOf_39 cl_53 (fun v3 => ?_)
      refine at_istore (lv' := [(7, .int v3), (0, .ref 76), (1, .int a1), (2, .int a2), (3, .long a3), (5, .int a5), (6, .int a6)]) hC dX2_taxOf_40 (by decide) rfl ?_
      refine at_aload_n (j := 1) hC rfl rfl dX2_taxOf_42 ?_
      refine gf_X2_15 hC dX2_taxOf_43 ?_
      refine gf_X2_130 hC dX2_taxOf_46 ?_
      refine at_iload (j := 0) hC rfl dX2_taxOf_49 ?_
      refine at_iald hC 42 dX2_taxOf_51 cl_42 (fun v4 => ?_)
      refine at_iconst hC ic_1 dX2_taxOf_52 ?_
      refine at_icmp_eq (tgt := 59) hC dX2_taxOf_53 rfl (fun _ => ?_) (fun _ => ?_)
      · refine at_aload_n (j := 1) hC rfl rfl dX2_taxOf_59 ?_
        refine gf_X2_15 hC dX2_taxOf_60 ?_
        refine gf_X2_108 hC dX2_taxOf_63 ?_
        refine at_iload (j := 0) hC rfl dX2_taxOf_66 ?_
        refine at_iald hC 45 dX2_taxOf_68 cl_45 (fun v5 => ?_)
        refine at_istore (lv' := [(8, .int v5), (7, .int v3), (0, .ref 76), (1, .int a1), (2, .int a2), (3, .long a3), (5, .int a5), (6, .int a6)]) hC dX2_taxOf_69 (by decide) rfl ?_
        refine at_iload (j := 6) hC rfl dX2_taxOf_71 ?_
        refine at_if_ne (tgt := 111) hC dX2_taxOf_73 rfl (fun _ => ?_) (fun _ => ?_)
        · refine at_drop (lv' := [(0, .ref 76), (1, .int a1), (2, .int a2), (3, .long a3), (6, .int a6)]) [2, 3, 4, 5, 7] rfl ?_
          exact t_Cn_taxOf_J111 hC hR (Cn_taxOf_L16_r n) hk_16 τ a1 a2 a3 a6
        · refine at_iload (j := 0) hC rfl dX2_taxOf_76 ?_
          refine at_bipush hC bi_100 dX2_taxOf_78 ?_
          refine at_idiv hC (by decide) dX2_taxOf_80 ?_
          refine at_iload_n (j := 4) hC rfl rfl dX2_taxOf_81 ?_
          refine at_icmp_ne (tgt := 111) hC dX2_taxOf_82 rfl (fun _ => ?_) (fun _ => ?_)
          · refine at_drop (lv' := [(0, .ref 76), (1, .int a1), (2, .int a2), (3, .long a3), (6, .int a6)]) [2, 3, 4, 5, 7] rfl ?_
            exact t_Cn_taxOf_J111 hC hR (Cn_taxOf_L16_r n) hk_16 τ a1 a2 a3 a6
          · refine at_aload_n (j := 2) hC rfl rfl dX2_taxOf_85 ?_
            refine gf_X2_19 hC dX2_taxOf_86 ?_
            refine at_iload_n (j := 3) hC rfl rfl dX2_taxOf_89 ?_
            refine at_iload (j := 0) hC rfl dX2_taxOf_90 ?_
            refine at_callVpI hC hR lk_X2_63 (c_Lv_standing τ a1 v5) dX2_taxOf_92 recX4 rfl rfl ⟨by decide, by decide⟩ (Nat.le_of_ble_eq_true rfl) ⟨Nat.le_refl 0, Nat.le_refl 0⟩ (fun r6 _ => ?_)
            refine at_iconst hC ic_1 dX2_taxOf_95 ?_
            refine at_icmp_ne (tgt := 111) hC dX2_taxOf_96 rfl (fun _ => ?_) (fun _ => ?_)
            · refine at_drop (lv' := [(0, .ref 76), (1, .int a1), (2, .int a2), (3, .long a3), (6, .int a6)]) [2, 3, 4, 5, 7] rfl ?_
              exact t_Cn_taxOf_J111 hC hR (Cn_taxOf_L16_r n) hk_16 τ a1 a2 a3 a6
            · refine at_lload_n (j := 5) hC rfl rfl dX2_taxOf_99 ?_
              refine at_aload_n (j := 2) hC rfl rfl dX2_taxOf_100 ?_
              refine at_iconst hC ic_3 dX2_taxOf_101 ?_
              refine at_iload_n (j := 3) hC rfl rfl dX2_taxOf_102 ?_
              refine at_iload (j := 0) hC rfl dX2_taxOf_103 ?_
              refine at_callVI hC hR lk_X2_67 (c_Cn_comesTo τ 3 a1 v5) dX2_taxOf_105 recX2 rfl rfl ⟨by decide, by decide⟩ (Nat.le_of_ble_eq_true rfl) ⟨Nat.le_refl 0, Nat.le_refl 0⟩ (fun r7 r7s _ => ?_)
              refine at_i2l hC dX2_taxOf_108 ?_
              refine at_ladd hC dX2_taxOf_109 ?_
              refine at_lstore_n (lv' := [(3, .long (a3 + r7.toInt64)), (8, .int v5), (7, .int v3), (0, .ref 76), (1, .int a1), (2, .int a2), (5, .int a5), (6, .int a6)]) hC rfl dX2_taxOf_110 (by decide) rfl ?_
              refine at_drop (lv' := [(0, .ref 76), (1, .int a1), (2, .int a2), (3, .long (a3 + r7.toInt64)), (6, .int a6)]) [3, 4, 5, 0, 7] rfl ?_
              exact t_Cn_taxOf_J111 hC hR (Cn_taxOf_L16_r n) hk_16 r7s a1 a2 (a3 + r7.toInt64) a6
      · refine at_goto (tgt := 114) hC dX2_taxOf_56 rfl ?_
        refine at_drop (lv' := [(0, .ref 76), (1, .int a1), (2, .int a2), (3, .long a3), (5, .int a5), (6, .int a6)]) [1, 2, 3, 4, 5, 6] rfl ?_
        exact t_Cn_taxOf_J114 hC hR (Cn_taxOf_L16_r n) hk_16 τ a1 a2 a3 a5 a6
set_option maxRecDepth 100000 in
theorem c_Cn_taxOf (τ : XS) (p0 : Int32) (p1 : Int32) : Ct z (wX z σ) rJ eqA yX2_taxOf cX2_taxOf 9 (some .long) 8 0 0 [.ref 76, .int p0, .int p1] τ (Cn_taxOf τ p0 p1) := by
  refine Ct.of (by decide) (Nat.le_of_ble_eq_true rfl) (fun ad x hC hR _ => ?_)
  show AT z x 9 (wX z σ) rJ (eqA ad) 0 0 0 0 ad 0 [(0, .ref 76), (1, .int p0), (2, .int p1)] [] τ (Cn_taxOf τ p0 p1)
  unfold Cn_taxOf
  refine at_lconst hC lc_0 dX2_taxOf_0 ?_
  refine at_lstore_n (lv' := [(3, .long 0), (0, .ref 76), (1, .int p0), (2, .int p1)]) hC rfl dX2_taxOf_1 (by decide) rfl ?_
  refine at_iconst hC ic_1 dX2_taxOf_2 ?_
  refine at_istore (lv' := [(5, .int 1), (3, .long 0), (0, .ref 76), (1, .int p0), (2, .int p1)]) hC dX2_taxOf_3 (by decide) rfl ?_
  refine at_aload_n (j := 2) hC rfl rfl dX2_taxOf_5 ?_
  refine gf_X2_19 hC dX2_taxOf_6 ?_
  refine gf_X2_121 hC dX2_taxOf_9 ?_
  refine at_iload_n (j := 3) hC rfl rfl dX2_taxOf_12 ?_
  refine at_iald hC 51 dX2_taxOf_13 cl_51 (fun v1 => ?_)
  refine at_istore (lv' := [(6, .int v1), (5, .int 1), (3, .long 0), (0, .ref 76), (1, .int p0), (2, .int p1)]) hC dX2_taxOf_14 (by decide) rfl ?_
  refine at_drop (lv' := [(0, .ref 76), (1, .int p0), (2, .int p1), (3, .long 0), (5, .int 1), (6, .int v1)]) [3, 4, 5, 2, 1, 0] rfl ?_
  exact t_Cn_taxOf_L16 hC hR 100000 τ p0 p1 0 1 v1
theorem dX4_paidIn_0 : decode cX4_paidIn 0 = .ok (.lconst 0, 1) := by decide +kernel
theorem dX4_paidIn_1 : decode cX4_paidIn 1 = .ok (.lstore_n 3, 1) := by decide +kernel
theorem dX4_paidIn_2 : decode cX4_paidIn 2 = .ok (.aload_n 0, 1) := by decide +kernel
theorem dX4_paidIn_3 : decode cX4_paidIn 3 = .ok (.getfield 15, 3) := by decide +kernel
theorem dX4_paidIn_6 : decode cX4_paidIn 6 = .ok (.iload_n 1, 1) := by decide +kernel
theorem dX4_paidIn_7 : decode cX4_paidIn 7 = .ok (.iaload, 1) := by decide +kernel
theorem dX4_paidIn_8 : decode cX4_paidIn 8 = .ok (.istore 5, 2) := by decide +kernel
theorem dX4_paidIn_10 : decode cX4_paidIn 10 = .ok (.iload 5, 2) := by decide +kernel
theorem dX4_paidIn_12 : decode cX4_paidIn 12 = .ok (.aload_n 0, 1) := by decide +kernel
theorem dX4_paidIn_13 : decode cX4_paidIn 13 = .ok (.getfield 18, 3) := by decide +kernel
theorem dX4_paidIn_16 : decode cX4_paidIn 16 = .ok (.iload_n 1, 1) := by decide +kernel
theorem dX4_paidIn_17 : decode cX4_paidIn 17 = .ok (.iaload, 1) := by decide +kernel
theorem dX4_paidIn_18 : decode cX4_paidIn 18 = .ok (.if_icmp .ge 64, 3) := by decide +kernel
theorem dX4_paidIn_21 : decode cX4_paidIn 21 = .ok (.aload_n 0, 1) := by decide +kernel
theorem dX4_paidIn_22 : decode cX4_paidIn 22 = .ok (.getfield 21, 3) := by decide +kernel
theorem dX4_paidIn_25 : decode cX4_paidIn 25 = .ok (.iload 5, 2) := by decide +kernel
theorem dX4_paidIn_27 : decode cX4_paidIn 27 = .ok (.iaload, 1) := by decide +kernel
theorem dX4_paidIn_28 : decode cX4_paidIn 28 = .ok (.istore 6, 2) := by decide +kernel
theorem dX4_paidIn_30 : decode cX4_paidIn 30 = .ok (.aload_n 0, 1) := by decide +kernel
theorem dX4_paidIn_31 : decode cX4_paidIn 31 = .ok (.getfield 24, 3) := by decide +kernel
theorem dX4_paidIn_34 : decode cX4_paidIn 34 = .ok (.getfield 44, 3) := by decide +kernel
theorem dX4_paidIn_37 : decode cX4_paidIn 37 = .ok (.iload 6, 2) := by decide +kernel
theorem dX4_paidIn_39 : decode cX4_paidIn 39 = .ok (.iaload, 1) := by decide +kernel
theorem dX4_paidIn_40 : decode cX4_paidIn 40 = .ok (.bipush 6, 2) := by decide +kernel
theorem dX4_paidIn_42 : decode cX4_paidIn 42 = .ok (.if_icmp .ne 34, 3) := by decide +kernel
theorem dX4_paidIn_45 : decode cX4_paidIn 45 = .ok (.aload_n 0, 1) := by decide +kernel
theorem dX4_paidIn_46 : decode cX4_paidIn 46 = .ok (.getfield 24, 3) := by decide +kernel
theorem dX4_paidIn_49 : decode cX4_paidIn 49 = .ok (.getfield 50, 3) := by decide +kernel
theorem dX4_paidIn_52 : decode cX4_paidIn 52 = .ok (.iload 6, 2) := by decide +kernel
theorem dX4_paidIn_54 : decode cX4_paidIn 54 = .ok (.iaload, 1) := by decide +kernel
theorem dX4_paidIn_55 : decode cX4_paidIn 55 = .ok (.bipush 100, 2) := by decide +kernel
theorem dX4_paidIn_57 : decode cX4_paidIn 57 = .ok (.idiv, 1) := by decide +kernel
theorem dX4_paidIn_58 : decode cX4_paidIn 58 = .ok (.iload_n 2, 1) := by decide +kernel
theorem dX4_paidIn_59 : decode cX4_paidIn 59 = .ok (.if_icmp .ne 17, 3) := by decide +kernel
theorem dX4_paidIn_62 : decode cX4_paidIn 62 = .ok (.lload_n 3, 1) := by decide +kernel
theorem dX4_paidIn_63 : decode cX4_paidIn 63 = .ok (.aload_n 0, 1) := by decide +kernel
theorem dX4_paidIn_64 : decode cX4_paidIn 64 = .ok (.getfield 24, 3) := by decide +kernel
theorem dX4_paidIn_67 : decode cX4_paidIn 67 = .ok (.getfield 53, 3) := by decide +kernel
theorem dX4_paidIn_70 : decode cX4_paidIn 70 = .ok (.iload 6, 2) := by decide +kernel
theorem dX4_paidIn_72 : decode cX4_paidIn 72 = .ok (.iaload, 1) := by decide +kernel
theorem dX4_paidIn_73 : decode cX4_paidIn 73 = .ok (.i2l, 1) := by decide +kernel
theorem dX4_paidIn_74 : decode cX4_paidIn 74 = .ok (.ladd, 1) := by decide +kernel
theorem dX4_paidIn_75 : decode cX4_paidIn 75 = .ok (.lstore_n 3, 1) := by decide +kernel
theorem dX4_paidIn_76 : decode cX4_paidIn 76 = .ok (.iinc 5 1, 3) := by decide +kernel
theorem dX4_paidIn_79 : decode cX4_paidIn 79 = .ok (.goto (-69), 3) := by decide +kernel
theorem dX4_paidIn_82 : decode cX4_paidIn 82 = .ok (.lload_n 3, 1) := by decide +kernel
theorem dX4_paidIn_83 : decode cX4_paidIn 83 = .ok (.lreturn, 1) := by decide +kernel
set_option maxRecDepth 100000 in
theorem t_Lv_paidIn_J76 (hC : CX z ad x cX4_paidIn RX4 7 (some .long)) (hR : x.2.2.1 = rmk 1 0 0) (τ : XS) (k_10 : Int32 → Int32 → Int64 → Int32 → Option Int64) (hk_10 : ∀ (a1 : Int32) (a2 : Int32) (a3 : Int64) (a5 : Int32), AT z x 7 (wX z σ) rJ (eqA ad) 0 0 0 0 ad 10 [(0, .ref 49), (1, .int a1), (2, .int a2), (3, .long a3), (5, .int a5)] [] τ ((k_10 a1 a2 a3 a5).map fun r => (r, τ))) (a1 : Int32) (a2 : Int32) (a3 : Int64) (a5 : Int32) : AT z x 7 (wX z σ) rJ (eqA ad) 0 0 0 0 ad 76 [(0, .ref 49), (1, .int a1), (2, .int a2), (3, .long a3), (5, .int a5)] [] τ ((Lv_paidIn_J76 k_10 τ a1 a2 a3 a5).map fun r => (r, τ)) := by
  unfold Lv_paidIn_J76
  refine at_iinc (j := 4) (v := a5 + 1) (lv' := [(5, .int (a5 + 1)), (0, .ref 49), (1, .int a1), (2, .int a2), (3, .long a3)]) hC dX4_paidIn_76 rfl rfl (by decide) rfl ?_
  refine at_goto (tgt := 10) hC dX4_paidIn_79 rfl ?_
  refine at_drop (lv' := [(0, .ref 49), (1, .int a1), (2, .int a2), (3, .long a3), (5, .int (a5 + 1))]) [1, 2, 3, 4, 0] rfl ?_
  exact hk_10 a1 a2 a3 (a5 + 1)
set_option maxRecDepth 100000 in
theorem t_Lv_paidIn_L10 (hC : CX z ad x cX4_paidIn RX4 7 (some .long)) (hR : x.2.2.1 = rmk 1 0 0) (τ : XS) (n : Nat) (a1 : Int32) (a2 : Int32) (a3 : Int64) (a5 : Int32) : AT z x 7 (wX z σ) rJ (eqA ad) 0 0 0 0 ad 10 [(0, .ref 49), (1, .int a1), (2, .int a2), (3, .long a3), (5, .int a5)] [] τ ((Lv_paidIn_L10 n τ a1 a2 a3 a5).map fun r => (r, τ)) := by
  revert a1 a2 a3 a5
  show ∀ (a1 : Int32) (a2 : Int32) (a3 : Int64) (a5 : Int32), AT z x 7 (wX z σ) rJ (eqA ad) 0 0 0 0 ad 10 [(0, .ref 49), (1, .int a1), (2, .int a2), (3, .long a3), (5, .int a5)] [] τ ((Lv_paidIn_L10_r τ n a1 a2 a3 a5).map fun r => (r, τ))
  induction n with
  | zero => intro a1 a2 a3 a5; exact ap_none
  | succ n hk_10 =>
    intro a1 a2 a3 a5
    unfold Lv_paidIn_L10_r
    refine at_iload (j := 4) hC rfl dX4_paidIn_10 ?_
    refine at_aload_n (j := 0) hC rfl rfl dX4_paidIn_12 ?_
    refine gf_X4_18 hC dX4_paidIn_13 ?_
    refine at_iload_n (j := 1) hC rfl rfl dX4_paidIn_16 ?_
    refine ap_iald hC 52 dX4_paidIn_17 cl_52 (fun v2 => ?_)
    refine ap_icmp_ge (tgt := 82) hC dX4_paidIn_18 rfl (fun _ => ?_) (fun _ => ?_)
    · refine at_lload_n (j := 3) hC rfl rfl dX4_paidIn_82 ?_
      exact at_lret (F := eqA ad) (ra := rJ) hC dX4_paidIn_83 rfl (Nat.le_refl 0) (Nat.le_refl 0) rfl
    · refine at_aload_n (j := 0) hC rfl rfl dX4_paidIn_21 ?_
      refine gf_X4_21 hC dX4_paidIn_22 ?_
      refine at_iload (j := 4) hC rfl dX4_paidIn_25 ?_
      refine ap_iald hC 53 dX4_paidIn_27 cl_53 (fun v3 => ?_)
      refine at_istore (lv' := [(6, .int v3), (0, .ref 49), (1, .int a1), (2, .int a2), (3, .long a3), (5, .int a5)]) hC dX4_paidIn_28 (by decide) rfl ?_
      refine at_aload_n (j := 1) hC rfl rfl dX4_paidIn_30 ?_
      refine gf_X4_24 hC dX4_paidIn_31 ?_
      refine gf_X4_44 hC dX4_paidIn_34 ?_
      refine at_iload (j := 0) hC rfl dX4_paidIn_37 ?_
      refine ap_iald hC 42 dX4_paidIn_39 cl_42 (fun v4 => ?_)
      refine at_bipush hC bi_6 dX4_paidIn_40 ?_
      refine ap_icmp_ne (tgt := 76) hC dX4_paidIn_42 rfl (fun _ => ?_) (fun _ => ?_)
      · refine at_drop (lv' := [(0, .ref 49), (1, .int a1), (2, .int a2), (3, .long a3), (5, .int a5)]) [1, 2, 3, 4, 5] rfl ?_
        exact t_Lv_paidIn_J76 hC hR τ (Lv_paidIn_L10_r τ n) hk_10 a1 a2 a3 a5
      · refine at_aload_n (j := 1) hC rfl rfl dX4_paidIn_45 ?_
        refine gf_X4_24 hC dX4_paidIn_46 ?_
        refine gf_X4_50 hC dX4_paidIn_49 ?_
        refine at_iload (j := 0) hC rfl dX4_paidIn_52 ?_
        refine ap_iald hC 45 dX4_paidIn_54 cl_45 (fun v5 => ?_)
        refine at_bipush hC bi_100 dX4_paidIn_55 ?_
        refine at_idiv hC (by decide) dX4_paidIn_57 ?_
        refine at_iload_n (j := 3) hC rfl rfl dX4_paidIn_58 ?_
        refine ap_icmp_ne (tgt := 76) hC dX4_paidIn_59 rfl (fun _ => ?_) (fun _ => ?_)
        · refine at_drop (lv' := [(0, .ref 49), (1, .int a1), (2, .int a2), (3, .long a3), (5, .int a5)]) [1, 2, 3, 4, 5] rfl ?_
          exact t_Lv_paidIn_J76 hC hR τ (Lv_paidIn_L10_r τ n) hk_10 a1 a2 a3 a5
        · refine at_lload_n (j := 4) hC rfl rfl dX4_paidIn_62 ?_
          refine at_aload_n (j := 1) hC rfl rfl dX4_paidIn_63 ?_
          refine gf_X4_24 hC dX4_paidIn_64 ?_
          refine gf_X4_53 hC dX4_paidIn_67 ?_
          refine at_iload (j := 0) hC rfl dX4_paidIn_70 ?_
          refine ap_iald hC 44 dX4_paidIn_72 cl_44 (fun v6 => ?_)
          refine at_i2l hC dX4_paidIn_73 ?_
          refine at_ladd hC dX4_paidIn_74 ?_
          refine at_lstore_n (lv' := [(3, .long (a3 + v6.toInt64)), (6, .int v3), (0, .ref 49), (1, .int a1), (2, .int a2), (5, .int a5)]) hC rfl dX4_paidIn_75 (by decide) rfl ?_
          refine at_drop (lv' := [(0, .ref 49), (1, .int a1), (2, .int a2), (3, .long (a3 + v6.toInt64)), (5, .int a5)]) [2, 3, 4, 0, 5] rfl ?_
          exact t_Lv_paidIn_J76 hC hR τ (Lv_paidIn_L10_r τ n) hk_10 a1 a2 (a3 + v6.toInt64) a5
set_option maxRecDepth 100000 in
theorem c_Lv_paidIn (τ : XS) (p0 : Int32) (p1 : Int32) : Ct z (wX z σ) rJ eqA yX4_paidIn cX4_paidIn 7 (some .long) 1 0 0 [.ref 49, .int p0, .int p1] τ ((Lv_paidIn τ p0 p1).map fun r => (r, τ)) := by
  refine Ct.of (by decide) (Nat.le_of_ble_eq_true rfl) (fun ad x hC hR _ => ?_)
  show AT z x 7 (wX z σ) rJ (eqA ad) 0 0 0 0 ad 0 [(0, .ref 49), (1, .int p0), (2, .int p1)] [] τ ((Lv_paidIn τ p0 p1).map fun r => (r, τ))
  unfold Lv_paidIn
  refine at_lconst hC lc_0 dX4_paidIn_0 ?_
  refine at_lstore_n (lv' := [(3, .long 0), (0, .ref 49), (1, .int p0), (2, .int p1)]) hC rfl dX4_paidIn_1 (by decide) rfl ?_
  refine at_aload_n (j := 1) hC rfl rfl dX4_paidIn_2 ?_
  refine gf_X4_15 hC dX4_paidIn_3 ?_
  refine at_iload_n (j := 2) hC rfl rfl dX4_paidIn_6 ?_
  refine ap_iald hC 51 dX4_paidIn_7 cl_51 (fun v1 => ?_)
  refine at_istore (lv' := [(5, .int v1), (3, .long 0), (0, .ref 49), (1, .int p0), (2, .int p1)]) hC dX4_paidIn_8 (by decide) rfl ?_
  refine at_drop (lv' := [(0, .ref 49), (1, .int p0), (2, .int p1), (3, .long 0), (5, .int v1)]) [2, 3, 4, 1, 0] rfl ?_
  exact t_Lv_paidIn_L10 hC hR τ 100000 p0 p1 0 v1
theorem dX2_arrearsOf_0 : decode cX2_arrearsOf 0 = .ok (.lconst 0, 1) := by decide +kernel
theorem dX2_arrearsOf_1 : decode cX2_arrearsOf 1 = .ok (.lstore_n 3, 1) := by decide +kernel
theorem dX2_arrearsOf_2 : decode cX2_arrearsOf 2 = .ok (.iconst 0, 1) := by decide +kernel
theorem dX2_arrearsOf_3 : decode cX2_arrearsOf 3 = .ok (.istore 5, 2) := by decide +kernel
theorem dX2_arrearsOf_5 : decode cX2_arrearsOf 5 = .ok (.iload 5, 2) := by decide +kernel
theorem dX2_arrearsOf_7 : decode cX2_arrearsOf 7 = .ok (.iload_n 2, 1) := by decide +kernel
theorem dX2_arrearsOf_8 : decode cX2_arrearsOf 8 = .ok (.if_icmp .gt 78, 3) := by decide +kernel
theorem dX2_arrearsOf_11 : decode cX2_arrearsOf 11 = .ok (.lload_n 3, 1) := by decide +kernel
theorem dX2_arrearsOf_12 : decode cX2_arrearsOf 12 = .ok (.aload_n 0, 1) := by decide +kernel
theorem dX2_arrearsOf_13 : decode cX2_arrearsOf 13 = .ok (.iload_n 1, 1) := by decide +kernel
theorem dX2_arrearsOf_14 : decode cX2_arrearsOf 14 = .ok (.iload 5, 2) := by decide +kernel
theorem dX2_arrearsOf_16 : decode cX2_arrearsOf 16 = .ok (.invokevirtual 133, 3) := by decide +kernel
theorem dX2_arrearsOf_19 : decode cX2_arrearsOf 19 = .ok (.aload_n 0, 1) := by decide +kernel
theorem dX2_arrearsOf_20 : decode cX2_arrearsOf 20 = .ok (.iload_n 1, 1) := by decide +kernel
theorem dX2_arrearsOf_21 : decode cX2_arrearsOf 21 = .ok (.iload 5, 2) := by decide +kernel
theorem dX2_arrearsOf_23 : decode cX2_arrearsOf 23 = .ok (.invokevirtual 137, 3) := by decide +kernel
theorem dX2_arrearsOf_26 : decode cX2_arrearsOf 26 = .ok (.ladd, 1) := by decide +kernel
theorem dX2_arrearsOf_27 : decode cX2_arrearsOf 27 = .ok (.aload_n 0, 1) := by decide +kernel
theorem dX2_arrearsOf_28 : decode cX2_arrearsOf 28 = .ok (.getfield 19, 3) := by decide +kernel
theorem dX2_arrearsOf_31 : decode cX2_arrearsOf 31 = .ok (.iload_n 1, 1) := by decide +kernel
theorem dX2_arrearsOf_32 : decode cX2_arrearsOf 32 = .ok (.iload 5, 2) := by decide +kernel
theorem dX2_arrearsOf_34 : decode cX2_arrearsOf 34 = .ok (.invokevirtual 140, 3) := by decide +kernel
theorem dX2_arrearsOf_37 : decode cX2_arrearsOf 37 = .ok (.lsub, 1) := by decide +kernel
theorem dX2_arrearsOf_38 : decode cX2_arrearsOf 38 = .ok (.ladd, 1) := by decide +kernel
theorem dX2_arrearsOf_39 : decode cX2_arrearsOf 39 = .ok (.lstore_n 3, 1) := by decide +kernel
theorem dX2_arrearsOf_40 : decode cX2_arrearsOf 40 = .ok (.lload_n 3, 1) := by decide +kernel
theorem dX2_arrearsOf_41 : decode cX2_arrearsOf 41 = .ok (.lconst 0, 1) := by decide +kernel
theorem dX2_arrearsOf_42 : decode cX2_arrearsOf 42 = .ok (.lcmp, 1) := by decide +kernel
theorem dX2_arrearsOf_43 : decode cX2_arrearsOf 43 = .ok (.ifCond .le 37, 3) := by decide +kernel
theorem dX2_arrearsOf_46 : decode cX2_arrearsOf 46 = .ok (.lload_n 3, 1) := by decide +kernel
theorem dX2_arrearsOf_47 : decode cX2_arrearsOf 47 = .ok (.lload_n 3, 1) := by decide +kernel
theorem dX2_arrearsOf_48 : decode cX2_arrearsOf 48 = .ok (.aload_n 0, 1) := by decide +kernel
theorem dX2_arrearsOf_49 : decode cX2_arrearsOf 49 = .ok (.iconst 5, 1) := by decide +kernel
theorem dX2_arrearsOf_50 : decode cX2_arrearsOf 50 = .ok (.iload_n 1, 1) := by decide +kernel
theorem dX2_arrearsOf_51 : decode cX2_arrearsOf 51 = .ok (.iload 5, 2) := by decide +kernel
theorem dX2_arrearsOf_53 : decode cX2_arrearsOf 53 = .ok (.bipush 100, 2) := by decide +kernel
theorem dX2_arrearsOf_55 : decode cX2_arrearsOf 55 = .ok (.imul, 1) := by decide +kernel
theorem dX2_arrearsOf_56 : decode cX2_arrearsOf 56 = .ok (.bipush 100, 2) := by decide +kernel
theorem dX2_arrearsOf_58 : decode cX2_arrearsOf 58 = .ok (.iadd, 1) := by decide +kernel
theorem dX2_arrearsOf_59 : decode cX2_arrearsOf 59 = .ok (.iconst 1, 1) := by decide +kernel
theorem dX2_arrearsOf_60 : decode cX2_arrearsOf 60 = .ok (.isub, 1) := by decide +kernel
theorem dX2_arrearsOf_61 : decode cX2_arrearsOf 61 = .ok (.invokevirtual 67, 3) := by decide +kernel
theorem dX2_arrearsOf_64 : decode cX2_arrearsOf 64 = .ok (.i2l, 1) := by decide +kernel
theorem dX2_arrearsOf_65 : decode cX2_arrearsOf 65 = .ok (.lmul, 1) := by decide +kernel
theorem dX2_arrearsOf_66 : decode cX2_arrearsOf 66 = .ok (.ldc2_w 143, 3) := by decide +kernel
theorem dX2_arrearsOf_69 : decode cX2_arrearsOf 69 = .ok (.ldiv, 1) := by decide +kernel
theorem dX2_arrearsOf_70 : decode cX2_arrearsOf 70 = .ok (.ladd, 1) := by decide +kernel
theorem dX2_arrearsOf_71 : decode cX2_arrearsOf 71 = .ok (.lstore_n 3, 1) := by decide +kernel
theorem dX2_arrearsOf_72 : decode cX2_arrearsOf 72 = .ok (.lload_n 3, 1) := by decide +kernel
theorem dX2_arrearsOf_73 : decode cX2_arrearsOf 73 = .ok (.ldc2_w 145, 3) := by decide +kernel
theorem dX2_arrearsOf_76 : decode cX2_arrearsOf 76 = .ok (.invokestatic 147, 3) := by decide +kernel
theorem dX2_arrearsOf_79 : decode cX2_arrearsOf 79 = .ok (.lstore_n 3, 1) := by decide +kernel
theorem dX2_arrearsOf_80 : decode cX2_arrearsOf 80 = .ok (.iinc 5 1, 3) := by decide +kernel
theorem dX2_arrearsOf_83 : decode cX2_arrearsOf 83 = .ok (.goto (-78), 3) := by decide +kernel
theorem dX2_arrearsOf_86 : decode cX2_arrearsOf 86 = .ok (.lload_n 3, 1) := by decide +kernel
theorem dX2_arrearsOf_87 : decode cX2_arrearsOf 87 = .ok (.lreturn, 1) := by decide +kernel
set_option maxRecDepth 100000 in
theorem t_Cn_arrearsOf_J80 (hC : CX z ad x cX2_arrearsOf RX2 6 (some .long)) (hR : x.2.2.1 = rmk 9 0 0) (k_5 : XS → Int32 → Int32 → Int64 → Int32 → Option (Int64 × XS)) (hk_5 : ∀ (τ : XS) (a1 : Int32) (a2 : Int32) (a3 : Int64) (a5 : Int32), AT z x 6 (wX z σ) rJ (eqA ad) 0 0 0 0 ad 5 [(0, .ref 76), (1, .int a1), (2, .int a2), (3, .long a3), (5, .int a5)] [] τ (k_5 τ a1 a2 a3 a5)) (τ : XS) (a1 : Int32) (a2 : Int32) (a3 : Int64) (a5 : Int32) : AT z x 6 (wX z σ) rJ (eqA ad) 0 0 0 0 ad 80 [(0, .ref 76), (1, .int a1), (2, .int a2), (3, .long a3), (5, .int a5)] [] τ (Cn_arrearsOf_J80 k_5 τ a1 a2 a3 a5) := by
  unfold Cn_arrearsOf_J80
  refine at_iinc (j := 4) (v := a5 + 1) (lv' := [(5, .int (a5 + 1)), (0, .ref 76), (1, .int a1), (2, .int a2), (3, .long a3)]) hC dX2_arrearsOf_80 rfl rfl (by decide) rfl ?_
  refine at_goto (tgt := 5) hC dX2_arrearsOf_83 rfl ?_
  refine at_drop (lv' := [(0, .ref 76), (1, .int a1), (2, .int a2), (3, .long a3), (5, .int (a5 + 1))]) [1, 2, 3, 4, 0] rfl ?_
  exact hk_5 τ a1 a2 a3 (a5 + 1)
set_option maxRecDepth 100000 in
theorem t_Cn_arrearsOf_L5 (hC : CX z ad x cX2_arrearsOf RX2 6 (some .long)) (hR : x.2.2.1 = rmk 9 0 0) (n : Nat) (τ : XS) (a1 : Int32) (a2 : Int32) (a3 : Int64) (a5 : Int32) : AT z x 6 (wX z σ) rJ (eqA ad) 0 0 0 0 ad 5 [(0, .ref 76), (1, .int a1), (2, .int a2), (3, .long a3), (5, .int a5)] [] τ (Cn_arrearsOf_L5 n τ a1 a2 a3 a5) := by
  revert τ a1 a2 a3 a5
  show ∀ (τ : XS) (a1 : Int32) (a2 : Int32) (a3 : Int64) (a5 : Int32), AT z x 6 (wX z σ) rJ (eqA ad) 0 0 0 0 ad 5 [(0, .ref 76), (1, .int a1), (2, .int a2), (3, .long a3), (5, .int a5)] [] τ (Cn_arrearsOf_L5_r n τ a1 a2 a3 a5)
  induction n with
  | zero => intro τ a1 a2 a3 a5; exact at_none
  | succ n hk_5 =>
    intro τ a1 a2 a3 a5
    unfold Cn_arrearsOf_L5_r
    refine at_iload (j := 4) hC rfl dX2_arrearsOf_5 ?_
    refine at_iload_n (j := 2) hC rfl rfl dX2_arrearsOf_7 ?_
    refine at_icmp_gt (tgt := 86) hC dX2_arrearsOf_8 rfl (fun _ => ?_) (fun _ => ?_)
    · refine at_lload_n (j := 3) hC rfl rfl dX2_arrearsOf_86 ?_
      exact at_lret (F := eqA ad) (ra := rJ) hC dX2_arrearsOf_87 rfl (Nat.le_refl 0) (Nat.le_refl 0) rfl
    · refine at_lload_n (j := 3) hC rfl rfl dX2_arrearsOf_11 ?_
      refine at_aload_n (j := 0) hC rfl rfl dX2_arrearsOf_12 ?_
      refine at_iload_n (j := 1) hC rfl rfl dX2_arrearsOf_13 ?_
      refine at_iload (j := 4) hC rfl dX2_arrearsOf_14 ?_
      refine at_callVJ hC hR lk_X2_133 (c_Cn_duesOf τ a1 a5) dX2_arrearsOf_16 recX2 rfl rfl ⟨by decide, by decide⟩ (Nat.le_of_ble_eq_true rfl) ⟨Nat.le_refl 0, Nat.le_refl 0⟩ (fun r1 r1s _ => ?_)
      refine at_aload_n (j := 0) hC rfl rfl dX2_arrearsOf_19 ?_
      refine at_iload_n (j := 1) hC rfl rfl dX2_arrearsOf_20 ?_
      refine at_iload (j := 4) hC rfl dX2_arrearsOf_21 ?_
      refine at_callVJ hC hR lk_X2_137 (c_Cn_taxOf r1s a1 a5) dX2_arrearsOf_23 recX2 rfl rfl ⟨by decide, by decide⟩ (Nat.le_of_ble_eq_true rfl) ⟨Nat.le_refl 0, Nat.le_refl 0⟩ (fun r2 r2s _ => ?_)
      refine at_ladd hC dX2_arrearsOf_26 ?_
      refine at_aload_n (j := 0) hC rfl rfl dX2_arrearsOf_27 ?_
      refine gf_X2_19 hC dX2_arrearsOf_28 ?_
      refine at_iload_n (j := 1) hC rfl rfl dX2_arrearsOf_31 ?_
      refine at_iload (j := 4) hC rfl dX2_arrearsOf_32 ?_
      refine at_callVpJ hC hR lk_X2_140 (c_Lv_paidIn r2s a1 a5) dX2_arrearsOf_34 recX4 rfl rfl ⟨by decide, by decide⟩ (Nat.le_of_ble_eq_true rfl) ⟨Nat.le_refl 0, Nat.le_refl 0⟩ (fun r3 _ => ?_)
      refine at_lsub hC dX2_arrearsOf_37 ?_
      refine at_ladd hC dX2_arrearsOf_38 ?_
      refine at_lstore_n (lv' := [(3, .long (a3 + ((r1 + r2) - r3))), (0, .ref 76), (1, .int a1), (2, .int a2), (5, .int a5)]) hC rfl dX2_arrearsOf_39 (by decide) rfl ?_
      refine at_lload_n (j := 0) hC rfl rfl dX2_arrearsOf_40 ?_
      refine at_lconst hC lc_0 dX2_arrearsOf_41 ?_
      refine at_lcmp hC dX2_arrearsOf_42 ?_
      refine at_if_le (tgt := 80) hC dX2_arrearsOf_43 rfl (fun _ => ?_) (fun _ => ?_)
      · refine at_drop (lv' := [(0, .ref 76), (1, .int a1), (2, .int a2), (3, .long (a3 + ((r1 + r2) - r3))), (5, .int a5)]) [1, 2, 3, 0, 4] rfl ?_
        exact t_Cn_arrearsOf_J80 hC hR (Cn_arrearsOf_L5_r n) hk_5 r2s a1 a2 (a3 + ((r1 + r2) - r3)) a5
      · refine at_lload_n (j := 0) hC rfl rfl dX2_arrearsOf_46 ?_
        refine at_lload_n (j := 0) hC rfl rfl dX2_arrearsOf_47 ?_
        refine at_aload_n (j := 1) hC rfl rfl dX2_arrearsOf_48 ?_
        refine at_iconst hC ic_5 dX2_arrearsOf_49 ?_
        refine at_iload_n (j := 2) hC rfl rfl dX2_arrearsOf_50 ?_
        refine at_iload (j := 4) hC rfl dX2_arrearsOf_51 ?_
        refine at_bipush hC bi_100 dX2_arrearsOf_53 ?_
        refine at_imul hC dX2_arrearsOf_55 ?_
        refine at_bipush hC bi_100 dX2_arrearsOf_56 ?_
        refine at_iadd hC dX2_arrearsOf_58 ?_
        refine at_iconst hC ic_1 dX2_arrearsOf_59 ?_
        refine at_isub hC dX2_arrearsOf_60 ?_
        refine at_callVI hC hR lk_X2_67 (c_Cn_comesTo r2s 5 a1 (((a5 * 100) + 100) - 1)) dX2_arrearsOf_61 recX2 rfl rfl ⟨by decide, by decide⟩ (Nat.le_of_ble_eq_true rfl) ⟨Nat.le_refl 0, Nat.le_refl 0⟩ (fun r4 r4s _ => ?_)
        refine at_i2l hC dX2_arrearsOf_64 ?_
        refine at_lmul hC dX2_arrearsOf_65 ?_
        refine at_ldc2 hC kl_X2_143 dX2_arrearsOf_66 ?_
        refine at_ldiv hC (by decide) dX2_arrearsOf_69 ?_
        refine at_ladd hC dX2_arrearsOf_70 ?_
        refine at_lstore_n (lv' := [(3, .long ((a3 + ((r1 + r2) - r3)) + (((a3 + ((r1 + r2) - r3)) * r4.toInt64) / 100))), (0, .ref 76), (1, .int a1), (2, .int a2), (5, .int a5)]) hC rfl dX2_arrearsOf_71 (by decide) rfl ?_
        refine at_lload_n (j := 0) hC rfl rfl dX2_arrearsOf_72 ?_
        refine at_ldc2 hC kl_X2_145 dX2_arrearsOf_73 ?_
        refine at_mnJ hC hR lkm_X2_147 dX2_arrearsOf_76 (by decide) (Nat.le_of_ble_eq_true rfl) ⟨Nat.le_refl 0, Nat.le_refl 0⟩ ?_
        refine at_lstore_n (lv' := [(3, .long (mnJ ((a3 + ((r1 + r2) - r3)) + (((a3 + ((r1 + r2) - r3)) * r4.toInt64) / 100)) 1000000000000)), (0, .ref 76), (1, .int a1), (2, .int a2), (5, .int a5)]) hC rfl dX2_arrearsOf_79 (by decide) rfl ?_
        refine at_drop (lv' := [(0, .ref 76), (1, .int a1), (2, .int a2), (3, .long (mnJ ((a3 + ((r1 + r2) - r3)) + (((a3 + ((r1 + r2) - r3)) * r4.toInt64) / 100)) 1000000000000)), (5, .int a5)]) [1, 2, 3, 0, 4] rfl ?_
        exact t_Cn_arrearsOf_J80 hC hR (Cn_arrearsOf_L5_r n) hk_5 r4s a1 a2 (mnJ ((a3 + ((r1 + r2) - r3)) + (((a3 + ((r1 + r2) - r3)) * r4.toInt64) / 100)) 1000000000000) a5
set_option maxRecDepth 100000 in
theorem c_Cn_arrearsOf (τ : XS) (p0 : Int32) (p1 : Int32) : Ct z (wX z σ) rJ eqA yX2_arrearsOf cX2_arrearsOf 6 (some .long) 9 0 0 [.ref 76, .int p0, .int p1] τ (Cn_arrearsOf τ p0 p1) := by
  refine Ct.of (by decide) (Nat.le_of_ble_eq_true rfl) (fun ad x hC hR _ => ?_)
  show AT z x 6 (wX z σ) rJ (eqA ad) 0 0 0 0 ad 0 [(0, .ref 76), (1, .int p0), (2, .int p1)] [] τ (Cn_arrearsOf τ p0 p1)
  unfold Cn_arrearsOf
  refine at_lconst hC lc_0 dX2_arrearsOf_0 ?_
  refine at_lstore_n (lv' := [(3, .long 0), (0, .ref 76), (1, .int p0), (2, .int p1)]) hC rfl dX2_arrearsOf_1 (by decide) rfl ?_
  refine at_iconst hC ic_0 dX2_arrearsOf_2 ?_
  refine at_istore (lv' := [(5, .int 0), (3, .long 0), (0, .ref 76), (1, .int p0), (2, .int p1)]) hC dX2_arrearsOf_3 (by decide) rfl ?_
  refine at_drop (lv' := [(0, .ref 76), (1, .int p0), (2, .int p1), (3, .long 0), (5, .int 0)]) [2, 3, 4, 1, 0] rfl ?_
  exact t_Cn_arrearsOf_L5 hC hR 100000 τ p0 p1 0 0
theorem dX4_seatOf_0 : decode cX4_seatOf 0 = .ok (.aload_n 0, 1) := by decide +kernel
theorem dX4_seatOf_1 : decode cX4_seatOf 1 = .ok (.iload_n 1, 1) := by decide +kernel
theorem dX4_seatOf_2 : decode cX4_seatOf 2 = .ok (.iload_n 2, 1) := by decide +kernel
theorem dX4_seatOf_3 : decode cX4_seatOf 3 = .ok (.iconst 4, 1) := by decide +kernel
theorem dX4_seatOf_4 : decode cX4_seatOf 4 = .ok (.invokevirtual 69, 3) := by decide +kernel
theorem dX4_seatOf_7 : decode cX4_seatOf 7 = .ok (.istore_n 3, 1) := by decide +kernel
theorem dX4_seatOf_8 : decode cX4_seatOf 8 = .ok (.iload_n 3, 1) := by decide +kernel
theorem dX4_seatOf_9 : decode cX4_seatOf 9 = .ok (.ifCond .ge 7, 3) := by decide +kernel
theorem dX4_seatOf_12 : decode cX4_seatOf 12 = .ok (.iconst (-1), 1) := by decide +kernel
theorem dX4_seatOf_13 : decode cX4_seatOf 13 = .ok (.goto 12, 3) := by decide +kernel
theorem dX4_seatOf_16 : decode cX4_seatOf 16 = .ok (.aload_n 0, 1) := by decide +kernel
theorem dX4_seatOf_17 : decode cX4_seatOf 17 = .ok (.getfield 24, 3) := by decide +kernel
theorem dX4_seatOf_20 : decode cX4_seatOf 20 = .ok (.getfield 53, 3) := by decide +kernel
theorem dX4_seatOf_23 : decode cX4_seatOf 23 = .ok (.iload_n 3, 1) := by decide +kernel
theorem dX4_seatOf_24 : decode cX4_seatOf 24 = .ok (.iaload, 1) := by decide +kernel
theorem dX4_seatOf_25 : decode cX4_seatOf 25 = .ok (.ireturn, 1) := by decide +kernel
set_option maxRecDepth 100000 in
theorem c_Lv_seatOf (τ : XS) (p0 : Int32) (p1 : Int32) : Ct z (wX z σ) rI eqA yX4_seatOf cX4_seatOf 4 (some .int) 2 0 0 [.ref 49, .int p0, .int p1] τ ((Lv_seatOf τ p0 p1).map fun r => (r, τ)) := by
  refine Ct.of (by decide) (Nat.le_of_ble_eq_true rfl) (fun ad x hC hR _ => ?_)
  show AT z x 4 (wX z σ) rI (eqA ad) 0 0 0 0 ad 0 [(0, .ref 49), (1, .int p0), (2, .int p1)] [] τ ((Lv_seatOf τ p0 p1).map fun r => (r, τ))
  unfold Lv_seatOf
  refine at_aload_n (j := 0) hC rfl rfl dX4_seatOf_0 ?_
  refine at_iload_n (j := 1) hC rfl rfl dX4_seatOf_1 ?_
  refine at_iload_n (j := 2) hC rfl rfl dX4_seatOf_2 ?_
  refine at_iconst hC ic_4 dX4_seatOf_3 ?_
  refine ap_callVI hC hR lk_X4_69 (c_Lv_lastOf τ p0 p1 4) dX4_seatOf_4 recX4 rfl rfl ⟨by decide, by decide⟩ (Nat.le_of_ble_eq_true rfl) ⟨Nat.le_refl 0, Nat.le_refl 0⟩ (fun r1 _ => ?_)
  refine at_istore_n (lv' := [(3, .int r1), (0, .ref 49), (1, .int p0), (2, .int p1)]) hC rfl dX4_seatOf_7 (by decide) rfl ?_
  refine at_iload_n (j := 0) hC rfl rfl dX4_seatOf_8 ?_
  refine ap_if_ge (tgt := 16) hC dX4_seatOf_9 rfl (fun _ => ?_) (fun _ => ?_)
  · refine at_aload_n (j := 1) hC rfl rfl dX4_seatOf_16 ?_
    refine gf_X4_24 hC dX4_seatOf_17 ?_
    refine gf_X4_53 hC dX4_seatOf_20 ?_
    refine at_iload_n (j := 0) hC rfl rfl dX4_seatOf_23 ?_
    refine ap_iald hC 44 dX4_seatOf_24 cl_44 (fun v2 => ?_)
    exact at_iret (F := eqA ad) (ra := rI) hC dX4_seatOf_25 rfl (Nat.le_refl 0) (Nat.le_refl 0) rfl
  · refine at_iconst hC ic_m1 dX4_seatOf_12 ?_
    refine at_goto (tgt := 25) hC dX4_seatOf_13 rfl ?_
    exact at_iret (F := eqA ad) (ra := rI) hC dX4_seatOf_25 rfl (Nat.le_refl 0) (Nat.le_refl 0) rfl
theorem dX2_vacantIn_0 : decode cX2_vacantIn 0 = .ok (.iload_n 1, 1) := by decide +kernel
theorem dX2_vacantIn_1 : decode cX2_vacantIn 1 = .ok (.bipush 100, 2) := by decide +kernel
theorem dX2_vacantIn_3 : decode cX2_vacantIn 3 = .ok (.imul, 1) := by decide +kernel
theorem dX2_vacantIn_4 : decode cX2_vacantIn 4 = .ok (.istore_n 2, 1) := by decide +kernel
theorem dX2_vacantIn_5 : decode cX2_vacantIn 5 = .ok (.iconst 0, 1) := by decide +kernel
theorem dX2_vacantIn_6 : decode cX2_vacantIn 6 = .ok (.istore_n 3, 1) := by decide +kernel
theorem dX2_vacantIn_7 : decode cX2_vacantIn 7 = .ok (.iconst 0, 1) := by decide +kernel
theorem dX2_vacantIn_8 : decode cX2_vacantIn 8 = .ok (.istore 4, 2) := by decide +kernel
theorem dX2_vacantIn_10 : decode cX2_vacantIn 10 = .ok (.iload 4, 2) := by decide +kernel
theorem dX2_vacantIn_12 : decode cX2_vacantIn 12 = .ok (.aload_n 0, 1) := by decide +kernel
theorem dX2_vacantIn_13 : decode cX2_vacantIn 13 = .ok (.getfield 15, 3) := by decide +kernel
theorem dX2_vacantIn_16 : decode cX2_vacantIn 16 = .ok (.getfield 54, 3) := by decide +kernel
theorem dX2_vacantIn_19 : decode cX2_vacantIn 19 = .ok (.if_icmp .ge 61, 3) := by decide +kernel
theorem dX2_vacantIn_22 : decode cX2_vacantIn 22 = .ok (.aload_n 0, 1) := by decide +kernel
theorem dX2_vacantIn_23 : decode cX2_vacantIn 23 = .ok (.getfield 19, 3) := by decide +kernel
theorem dX2_vacantIn_26 : decode cX2_vacantIn 26 = .ok (.getfield 121, 3) := by decide +kernel
theorem dX2_vacantIn_29 : decode cX2_vacantIn 29 = .ok (.iload 4, 2) := by decide +kernel
theorem dX2_vacantIn_31 : decode cX2_vacantIn 31 = .ok (.iaload, 1) := by decide +kernel
theorem dX2_vacantIn_32 : decode cX2_vacantIn 32 = .ok (.aload_n 0, 1) := by decide +kernel
theorem dX2_vacantIn_33 : decode cX2_vacantIn 33 = .ok (.getfield 19, 3) := by decide +kernel
theorem dX2_vacantIn_36 : decode cX2_vacantIn 36 = .ok (.getfield 124, 3) := by decide +kernel
theorem dX2_vacantIn_39 : decode cX2_vacantIn 39 = .ok (.iload 4, 2) := by decide +kernel
theorem dX2_vacantIn_41 : decode cX2_vacantIn 41 = .ok (.iaload, 1) := by decide +kernel
theorem dX2_vacantIn_42 : decode cX2_vacantIn 42 = .ok (.if_icmp .ge 32, 3) := by decide +kernel
theorem dX2_vacantIn_45 : decode cX2_vacantIn 45 = .ok (.aload_n 0, 1) := by decide +kernel
theorem dX2_vacantIn_46 : decode cX2_vacantIn 46 = .ok (.getfield 19, 3) := by decide +kernel
theorem dX2_vacantIn_49 : decode cX2_vacantIn 49 = .ok (.iload 4, 2) := by decide +kernel
theorem dX2_vacantIn_51 : decode cX2_vacantIn 51 = .ok (.iload_n 2, 1) := by decide +kernel
theorem dX2_vacantIn_52 : decode cX2_vacantIn 52 = .ok (.invokevirtual 63, 3) := by decide +kernel
theorem dX2_vacantIn_55 : decode cX2_vacantIn 55 = .ok (.iconst 1, 1) := by decide +kernel
theorem dX2_vacantIn_56 : decode cX2_vacantIn 56 = .ok (.if_icmp .ne 18, 3) := by decide +kernel
theorem dX2_vacantIn_59 : decode cX2_vacantIn 59 = .ok (.iload_n 3, 1) := by decide +kernel
theorem dX2_vacantIn_60 : decode cX2_vacantIn 60 = .ok (.iconst 1, 1) := by decide +kernel
theorem dX2_vacantIn_61 : decode cX2_vacantIn 61 = .ok (.aload_n 0, 1) := by decide +kernel
theorem dX2_vacantIn_62 : decode cX2_vacantIn 62 = .ok (.getfield 19, 3) := by decide +kernel
theorem dX2_vacantIn_65 : decode cX2_vacantIn 65 = .ok (.iload 4, 2) := by decide +kernel
theorem dX2_vacantIn_67 : decode cX2_vacantIn 67 = .ok (.iload_n 2, 1) := by decide +kernel
theorem dX2_vacantIn_68 : decode cX2_vacantIn 68 = .ok (.invokevirtual 153, 3) := by decide +kernel
theorem dX2_vacantIn_71 : decode cX2_vacantIn 71 = .ok (.ishl, 1) := by decide +kernel
theorem dX2_vacantIn_72 : decode cX2_vacantIn 72 = .ok (.ior, 1) := by decide +kernel
theorem dX2_vacantIn_73 : decode cX2_vacantIn 73 = .ok (.istore_n 3, 1) := by decide +kernel
theorem dX2_vacantIn_74 : decode cX2_vacantIn 74 = .ok (.iinc 4 1, 3) := by decide +kernel
theorem dX2_vacantIn_77 : decode cX2_vacantIn 77 = .ok (.goto (-67), 3) := by decide +kernel
theorem dX2_vacantIn_80 : decode cX2_vacantIn 80 = .ok (.aload_n 0, 1) := by decide +kernel
theorem dX2_vacantIn_81 : decode cX2_vacantIn 81 = .ok (.getfield 15, 3) := by decide +kernel
theorem dX2_vacantIn_84 : decode cX2_vacantIn 84 = .ok (.getfield 156, 3) := by decide +kernel
theorem dX2_vacantIn_87 : decode cX2_vacantIn 87 = .ok (.iload_n 3, 1) := by decide +kernel
theorem dX2_vacantIn_88 : decode cX2_vacantIn 88 = .ok (.invokestatic 159, 3) := by decide +kernel
theorem dX2_vacantIn_91 : decode cX2_vacantIn 91 = .ok (.isub, 1) := by decide +kernel
theorem dX2_vacantIn_92 : decode cX2_vacantIn 92 = .ok (.i2l, 1) := by decide +kernel
theorem dX2_vacantIn_93 : decode cX2_vacantIn 93 = .ok (.aload_n 0, 1) := by decide +kernel
theorem dX2_vacantIn_94 : decode cX2_vacantIn 94 = .ok (.iconst 4, 1) := by decide +kernel
theorem dX2_vacantIn_95 : decode cX2_vacantIn 95 = .ok (.iconst (-1), 1) := by decide +kernel
theorem dX2_vacantIn_96 : decode cX2_vacantIn 96 = .ok (.iload_n 2, 1) := by decide +kernel
theorem dX2_vacantIn_97 : decode cX2_vacantIn 97 = .ok (.invokevirtual 67, 3) := by decide +kernel
theorem dX2_vacantIn_100 : decode cX2_vacantIn 100 = .ok (.i2l, 1) := by decide +kernel
theorem dX2_vacantIn_101 : decode cX2_vacantIn 101 = .ok (.lmul, 1) := by decide +kernel
theorem dX2_vacantIn_102 : decode cX2_vacantIn 102 = .ok (.lreturn, 1) := by decide +kernel
set_option maxRecDepth 100000 in
theorem t_Cn_vacantIn_J74 (hC : CX z ad x cX2_vacantIn RX2 5 (some .long)) (hR : x.2.2.1 = rmk 8 0 0) (k_10 : XS → Int32 → Int32 → Int32 → Option (Int64 × XS)) (hk_10 : ∀ (τ : XS) (a2 : Int32) (a3 : Int32) (a4 : Int32), AT z x 5 (wX z σ) rJ (eqA ad) 0 0 0 0 ad 10 [(0, .ref 76), (2, .int a2), (3, .int a3), (4, .int a4)] [] τ (k_10 τ a2 a3 a4)) (τ : XS) (a2 : Int32) (a3 : Int32) (a4 : Int32) : AT z x 5 (wX z σ) rJ (eqA ad) 0 0 0 0 ad 74 [(0, .ref 76), (2, .int a2), (3, .int a3), (4, .int a4)] [] τ (Cn_vacantIn_J74 k_10 τ a2 a3 a4) := by
  unfold Cn_vacantIn_J74
  refine at_iinc (j := 3) (v := a4 + 1) (lv' := [(4, .int (a4 + 1)), (0, .ref 76), (2, .int a2), (3, .int a3)]) hC dX2_vacantIn_74 rfl rfl (by decide) rfl ?_
  refine at_goto (tgt := 10) hC dX2_vacantIn_77 rfl ?_
  refine at_drop (lv' := [(0, .ref 76), (2, .int a2), (3, .int a3), (4, .int (a4 + 1))]) [1, 2, 3, 0] rfl ?_
  exact hk_10 τ a2 a3 (a4 + 1)
set_option maxRecDepth 100000 in
theorem t_Cn_vacantIn_L10 (hC : CX z ad x cX2_vacantIn RX2 5 (some .long)) (hR : x.2.2.1 = rmk 8 0 0) (n : Nat) (τ : XS) (a2 : Int32) (a3 : Int32) (a4 : Int32) : AT z x 5 (wX z σ) rJ (eqA ad) 0 0 0 0 ad 10 [(0, .ref 76), (2, .int a2), (3, .int a3), (4, .int a4)] [] τ (Cn_vacantIn_L10 n τ a2 a3 a4) := by
  revert τ a2 a3 a4
  show ∀ (τ : XS) (a2 : Int32) (a3 : Int32) (a4 : Int32), AT z x 5 (wX z σ) rJ (eqA ad) 0 0 0 0 ad 10 [(0, .ref 76), (2, .int a2), (3, .int a3), (4, .int a4)] [] τ (Cn_vacantIn_L10_r n τ a2 a3 a4)
  induction n with
  | zero => intro τ a2 a3 a4; exact at_none
  | succ n hk_10 =>
    intro τ a2 a3 a4
    unfold Cn_vacantIn_L10_r
    refine at_iload (j := 3) hC rfl dX2_vacantIn_10 ?_
    refine at_aload_n (j := 0) hC rfl rfl dX2_vacantIn_12 ?_
    refine gf_X2_15 hC dX2_vacantIn_13 ?_
    refine gf_X2_54 hC dX2_vacantIn_16 ?_
    refine at_icmp_ge (tgt := 80) hC dX2_vacantIn_19 rfl (fun _ => ?_) (fun _ => ?_)
    · refine at_aload_n (j := 0) hC rfl rfl dX2_vacantIn_80 ?_
      refine gf_X2_15 hC dX2_vacantIn_81 ?_
      refine gf_X2_156 hC dX2_vacantIn_84 ?_
      refine at_iload_n (j := 2) hC rfl rfl dX2_vacantIn_87 ?_
      refine at_callSpI hC hR lk_X2_159 (c_Jd_bitCount τ a3) dX2_vacantIn_88 rfl rfl ⟨by decide, by decide⟩ (Nat.le_of_ble_eq_true rfl) ⟨Nat.le_refl 0, Nat.le_refl 0⟩ (fun r1 _ => ?_)
      refine at_isub hC dX2_vacantIn_91 ?_
      refine at_i2l hC dX2_vacantIn_92 ?_
      refine at_aload_n (j := 0) hC rfl rfl dX2_vacantIn_93 ?_
      refine at_iconst hC ic_4 dX2_vacantIn_94 ?_
      refine at_iconst hC ic_m1 dX2_vacantIn_95 ?_
      refine at_iload_n (j := 1) hC rfl rfl dX2_vacantIn_96 ?_
      refine at_callVI hC hR lk_X2_67 (c_Cn_comesTo τ 4 (-1) a2) dX2_vacantIn_97 recX2 rfl rfl ⟨by decide, by decide⟩ (Nat.le_of_ble_eq_true rfl) ⟨Nat.le_refl 0, Nat.le_refl 0⟩ (fun r2 r2s _ => ?_)
      refine at_i2l hC dX2_vacantIn_100 ?_
      refine at_lmul hC dX2_vacantIn_101 ?_
      exact at_lret (F := eqA ad) (ra := rJ) hC dX2_vacantIn_102 rfl (Nat.le_refl 0) (Nat.le_refl 0) rfl
    · refine at_aload_n (j := 0) hC rfl rfl dX2_vacantIn_22 ?_
      refine gf_X2_19 hC dX2_vacantIn_23 ?_
      refine gf_X2_121 hC dX2_vacantIn_26 ?_
      refine at_iload (j := 3) hC rfl dX2_vacantIn_29 ?_
      refine at_iald hC 51 dX2_vacantIn_31 cl_51 (fun v3 => ?_)
      refine at_aload_n (j := 0) hC rfl rfl dX2_vacantIn_32 ?_
      refine gf_X2_19 hC dX2_vacantIn_33 ?_
      refine gf_X2_124 hC dX2_vacantIn_36 ?_
      refine at_iload (j := 3) hC rfl dX2_vacantIn_39 ?_
      refine at_iald hC 52 dX2_vacantIn_41 cl_52 (fun v4 => ?_)
      refine at_icmp_ge (tgt := 74) hC dX2_vacantIn_42 rfl (fun _ => ?_) (fun _ => ?_)
      · exact t_Cn_vacantIn_J74 hC hR (Cn_vacantIn_L10_r n) hk_10 τ a2 a3 a4
      · refine at_aload_n (j := 0) hC rfl rfl dX2_vacantIn_45 ?_
        refine gf_X2_19 hC dX2_vacantIn_46 ?_
        refine at_iload (j := 3) hC rfl dX2_vacantIn_49 ?_
        refine at_iload_n (j := 1) hC rfl rfl dX2_vacantIn_51 ?_
        refine at_callVpI hC hR lk_X2_63 (c_Lv_standing τ a4 a2) dX2_vacantIn_52 recX4 rfl rfl ⟨by decide, by decide⟩ (Nat.le_of_ble_eq_true rfl) ⟨Nat.le_refl 0, Nat.le_refl 0⟩ (fun r5 _ => ?_)
        refine at_iconst hC ic_1 dX2_vacantIn_55 ?_
        refine at_icmp_ne (tgt := 74) hC dX2_vacantIn_56 rfl (fun _ => ?_) (fun _ => ?_)
        · exact t_Cn_vacantIn_J74 hC hR (Cn_vacantIn_L10_r n) hk_10 τ a2 a3 a4
        · refine at_iload_n (j := 2) hC rfl rfl dX2_vacantIn_59 ?_
          refine at_iconst hC ic_1 dX2_vacantIn_60 ?_
          refine at_aload_n (j := 0) hC rfl rfl dX2_vacantIn_61 ?_
          refine gf_X2_19 hC dX2_vacantIn_62 ?_
          refine at_iload (j := 3) hC rfl dX2_vacantIn_65 ?_
          refine at_iload_n (j := 1) hC rfl rfl dX2_vacantIn_67 ?_
          refine at_callVpI hC hR lk_X2_153 (c_Lv_seatOf τ a4 a2) dX2_vacantIn_68 recX4 rfl rfl ⟨by decide, by decide⟩ (Nat.le_of_ble_eq_true rfl) ⟨Nat.le_refl 0, Nat.le_refl 0⟩ (fun r6 _ => ?_)
          refine at_ishl hC dX2_vacantIn_71 ?_
          refine at_ior hC dX2_vacantIn_72 ?_
          refine at_istore_n (lv' := [(3, .int (a3 ||| (1 <<< (r6 &&& 31)))), (0, .ref 76), (2, .int a2), (4, .int a4)]) hC rfl dX2_vacantIn_73 (by decide) rfl ?_
          refine at_drop (lv' := [(0, .ref 76), (2, .int a2), (3, .int (a3 ||| (1 <<< (r6 &&& 31)))), (4, .int a4)]) [1, 2, 0, 3] rfl ?_
          exact t_Cn_vacantIn_J74 hC hR (Cn_vacantIn_L10_r n) hk_10 τ a2 (a3 ||| (1 <<< (r6 &&& 31))) a4
set_option maxRecDepth 100000 in
theorem c_Cn_vacantIn (τ : XS) (p0 : Int32) : Ct z (wX z σ) rJ eqA yX2_vacantIn cX2_vacantIn 5 (some .long) 8 0 0 [.ref 76, .int p0] τ (Cn_vacantIn τ p0) := by
  refine Ct.of (by decide) (Nat.le_of_ble_eq_true rfl) (fun ad x hC hR _ => ?_)
  show AT z x 5 (wX z σ) rJ (eqA ad) 0 0 0 0 ad 0 [(0, .ref 76), (1, .int p0)] [] τ (Cn_vacantIn τ p0)
  unfold Cn_vacantIn
  refine at_iload_n (j := 1) hC rfl rfl dX2_vacantIn_0 ?_
  refine at_bipush hC bi_100 dX2_vacantIn_1 ?_
  refine at_imul hC dX2_vacantIn_3 ?_
  refine at_istore_n (lv' := [(2, .int (p0 * 100)), (0, .ref 76), (1, .int p0)]) hC rfl dX2_vacantIn_4 (by decide) rfl ?_
  refine at_iconst hC ic_0 dX2_vacantIn_5 ?_
  refine at_istore_n (lv' := [(3, .int 0), (2, .int (p0 * 100)), (0, .ref 76), (1, .int p0)]) hC rfl dX2_vacantIn_6 (by decide) rfl ?_
  refine at_iconst hC ic_0 dX2_vacantIn_7 ?_
  refine at_istore (lv' := [(4, .int 0), (3, .int 0), (2, .int (p0 * 100)), (0, .ref 76), (1, .int p0)]) hC dX2_vacantIn_8 (by decide) rfl ?_
  refine at_drop (lv' := [(0, .ref 76), (2, .int (p0 * 100)), (3, .int 0), (4, .int 0)]) [3, 2, 1, 0] rfl ?_
  exact t_Cn_vacantIn_L10 hC hR 100000 τ (p0 * 100) 0 0
theorem dX3_latestBegun_0 : decode cX3_latestBegun 0 = .ok (.iload_n 1, 1) := by decide +kernel
theorem dX3_latestBegun_1 : decode cX3_latestBegun 1 = .ok (.istore_n 3, 1) := by decide +kernel
theorem dX3_latestBegun_2 : decode cX3_latestBegun 2 = .ok (.iconst 0, 1) := by decide +kernel
theorem dX3_latestBegun_3 : decode cX3_latestBegun 3 = .ok (.istore 4, 2) := by decide +kernel
theorem dX3_latestBegun_5 : decode cX3_latestBegun 5 = .ok (.iload 4, 2) := by decide +kernel
theorem dX3_latestBegun_7 : decode cX3_latestBegun 7 = .ok (.aload_n 0, 1) := by decide +kernel
theorem dX3_latestBegun_8 : decode cX3_latestBegun 8 = .ok (.getfield 36, 3) := by decide +kernel
theorem dX3_latestBegun_11 : decode cX3_latestBegun 11 = .ok (.if_icmp .ge 55, 3) := by decide +kernel
theorem dX3_latestBegun_14 : decode cX3_latestBegun 14 = .ok (.aload_n 0, 1) := by decide +kernel
theorem dX3_latestBegun_15 : decode cX3_latestBegun 15 = .ok (.getfield 11, 3) := by decide +kernel
theorem dX3_latestBegun_18 : decode cX3_latestBegun 18 = .ok (.iload 4, 2) := by decide +kernel
theorem dX3_latestBegun_20 : decode cX3_latestBegun 20 = .ok (.aaload, 1) := by decide +kernel
theorem dX3_latestBegun_21 : decode cX3_latestBegun 21 = .ok (.astore 5, 2) := by decide +kernel
theorem dX3_latestBegun_23 : decode cX3_latestBegun 23 = .ok (.aload 5, 2) := by decide +kernel
theorem dX3_latestBegun_25 : decode cX3_latestBegun 25 = .ok (.ifnull 35, 3) := by decide +kernel
theorem dX3_latestBegun_28 : decode cX3_latestBegun 28 = .ok (.aload 5, 2) := by decide +kernel
theorem dX3_latestBegun_30 : decode cX3_latestBegun 30 = .ok (.getfield 123, 3) := by decide +kernel
theorem dX3_latestBegun_33 : decode cX3_latestBegun 33 = .ok (.ifCond .eq 27, 3) := by decide +kernel
theorem dX3_latestBegun_36 : decode cX3_latestBegun 36 = .ok (.aload 5, 2) := by decide +kernel
theorem dX3_latestBegun_38 : decode cX3_latestBegun 38 = .ok (.getfield 44, 3) := by decide +kernel
theorem dX3_latestBegun_41 : decode cX3_latestBegun 41 = .ok (.iload_n 3, 1) := by decide +kernel
theorem dX3_latestBegun_42 : decode cX3_latestBegun 42 = .ok (.if_icmp .le 18, 3) := by decide +kernel
theorem dX3_latestBegun_45 : decode cX3_latestBegun 45 = .ok (.aload 5, 2) := by decide +kernel
theorem dX3_latestBegun_47 : decode cX3_latestBegun 47 = .ok (.getfield 44, 3) := by decide +kernel
theorem dX3_latestBegun_50 : decode cX3_latestBegun 50 = .ok (.iload_n 2, 1) := by decide +kernel
theorem dX3_latestBegun_51 : decode cX3_latestBegun 51 = .ok (.if_icmp .gt 9, 3) := by decide +kernel
theorem dX3_latestBegun_54 : decode cX3_latestBegun 54 = .ok (.aload 5, 2) := by decide +kernel
theorem dX3_latestBegun_56 : decode cX3_latestBegun 56 = .ok (.getfield 44, 3) := by decide +kernel
theorem dX3_latestBegun_59 : decode cX3_latestBegun 59 = .ok (.istore_n 3, 1) := by decide +kernel
theorem dX3_latestBegun_60 : decode cX3_latestBegun 60 = .ok (.iinc 4 1, 3) := by decide +kernel
theorem dX3_latestBegun_63 : decode cX3_latestBegun 63 = .ok (.goto (-58), 3) := by decide +kernel
theorem dX3_latestBegun_66 : decode cX3_latestBegun 66 = .ok (.iload_n 3, 1) := by decide +kernel
theorem dX3_latestBegun_67 : decode cX3_latestBegun 67 = .ok (.ireturn, 1) := by decide +kernel
set_option maxRecDepth 100000 in
theorem t_Lw_latestBegun_J60 (hC : CX z ad x cX3_latestBegun RX3 6 (some .int)) (hR : x.2.2.1 = rmk 1 0 0) (τ : XS) (k_5 : Int32 → Int32 → Int32 → Option Int32) (hk_5 : ∀ (a2 : Int32) (a3 : Int32) (a4 : Int32), AT z x 6 (wX z σ) rI (eqA ad) 0 0 0 0 ad 5 [(0, .ref 57), (2, .int a2), (3, .int a3), (4, .int a4)] [] τ ((k_5 a2 a3 a4).map fun r => (r, τ))) (a2 : Int32) (a3 : Int32) (a4 : Int32) : AT z x 6 (wX z σ) rI (eqA ad) 0 0 0 0 ad 60 [(0, .ref 57), (2, .int a2), (3, .int a3), (4, .int a4)] [] τ ((Lw_latestBegun_J60 k_5 τ a2 a3 a4).map fun r => (r, τ)) := by
  unfold Lw_latestBegun_J60
  refine at_iinc (j := 3) (v := a4 + 1) (lv' := [(4, .int (a4 + 1)), (0, .ref 57), (2, .int a2), (3, .int a3)]) hC dX3_latestBegun_60 rfl rfl (by decide) rfl ?_
  refine at_goto (tgt := 5) hC dX3_latestBegun_63 rfl ?_
  refine at_drop (lv' := [(0, .ref 57), (2, .int a2), (3, .int a3), (4, .int (a4 + 1))]) [1, 2, 3, 0] rfl ?_
  exact hk_5 a2 a3 (a4 + 1)
set_option maxRecDepth 100000 in
theorem t_Lw_latestBegun_L5 (hC : CX z ad x cX3_latestBegun RX3 6 (some .int)) (hR : x.2.2.1 = rmk 1 0 0) (τ : XS) (n : Nat) (a2 : Int32) (a3 : Int32) (a4 : Int32) : AT z x 6 (wX z σ) rI (eqA ad) 0 0 0 0 ad 5 [(0, .ref 57), (2, .int a2), (3, .int a3), (4, .int a4)] [] τ ((Lw_latestBegun_L5 n τ a2 a3 a4).map fun r => (r, τ)) := by
  revert a2 a3 a4
  show ∀ (a2 : Int32) (a3 : Int32) (a4 : Int32), AT z x 6 (wX z σ) rI (eqA ad) 0 0 0 0 ad 5 [(0, .ref 57), (2, .int a2), (3, .int a3), (4, .int a4)] [] τ ((Lw_latestBegun_L5_r τ n a2 a3 a4).map fun r => (r, τ))
  induction n with
  | zero => intro a2 a3 a4; exact ap_none
  | succ n hk_5 =>
    intro a2 a3 a4
    unfold Lw_latestBegun_L5_r
    refine at_iload (j := 3) hC rfl dX3_latestBegun_5 ?_
    refine at_aload_n (j := 0) hC rfl rfl dX3_latestBegun_7 ?_
    refine gf_X3_36 hC dX3_latestBegun_8 ?_
    refine ap_icmp_ge (tgt := 66) hC dX3_latestBegun_11 rfl (fun _ => ?_) (fun _ => ?_)
    · refine at_iload_n (j := 2) hC rfl rfl dX3_latestBegun_66 ?_
      exact at_iret (F := eqA ad) (ra := rI) hC dX3_latestBegun_67 rfl (Nat.le_refl 0) (Nat.le_refl 0) rfl
    · refine at_aload_n (j := 0) hC rfl rfl dX3_latestBegun_14 ?_
      refine gf_X3_11 hC dX3_latestBegun_15 ?_
      refine at_iload (j := 3) hC rfl dX3_latestBegun_18 ?_
      refine ap_aldq hC 58 dX3_latestBegun_20 cl_58 (fun v1 => ?_)
      refine at_astoreV (lv' := [(5, vr v1), (0, .ref 57), (2, .int a2), (3, .int a3), (4, .int a4)]) hC dX3_latestBegun_21 (by decide) rfl ?_
      refine at_aloadV (j := 0) hC rfl dX3_latestBegun_23 ?_
      refine ap_ifnull (tgt := 60) hC dX3_latestBegun_25 rfl ?_ ?_
      · refine at_drop (lv' := [(0, .ref 57), (2, .int a2), (3, .int a3), (4, .int a4)]) [1, 2, 3, 4] rfl ?_
        exact t_Lw_latestBegun_J60 hC hR τ (Lw_latestBegun_L5_r τ n) hk_5 a2 a3 a4
      · refine at_aloadV (j := 0) hC rfl dX3_latestBegun_28 ?_
        refine ap_oA (pre := []) rfl (fun a_1 _ hg1 => ?_)
        refine at_get (v := .int (tF τ a_1 1)) (C := RX0) (T := TX0) (N := 10) (ci := 0) (j := 1) hC (80 + 7 * a_1) dX3_latestBegun_30 inX0 (cla hg1) rfl (by decide) lf_X3_123 rfl rfl ?_
        refine ap_if_eq (tgt := 60) hC dX3_latestBegun_33 rfl (fun _ => ?_) (fun _ => ?_)
        · refine at_drop (lv' := [(0, .ref 57), (2, .int a2), (3, .int a3), (4, .int a4)]) [1, 2, 3, 4] rfl ?_
          exact t_Lw_latestBegun_J60 hC hR τ (Lw_latestBegun_L5_r τ n) hk_5 a2 a3 a4
        · refine at_aloadV (j := 0) hC rfl dX3_latestBegun_36 ?_
          refine ap_oA (pre := []) rfl (fun a_2 _ hg2 => ?_)
          refine at_get (v := .int (tF τ a_2 0)) (C := RX0) (T := TX0) (N := 10) (ci := 0) (j := 0) hC (80 + 7 * a_2) dX3_latestBegun_38 inX0 (cla hg2) rfl (by decide) lf_X3_44 rfl rfl ?_
          refine at_iload_n (j := 3) hC rfl rfl dX3_latestBegun_41 ?_
          refine ap_icmp_le (tgt := 60) hC dX3_latestBegun_42 rfl (fun _ => ?_) (fun _ => ?_)
          · refine at_drop (lv' := [(0, .ref 57), (2, .int a2), (3, .int a3), (4, .int a4)]) [1, 2, 3, 4] rfl ?_
            exact t_Lw_latestBegun_J60 hC hR τ (Lw_latestBegun_L5_r τ n) hk_5 a2 a3 a4
          · refine at_aloadV (j := 0) hC rfl dX3_latestBegun_45 ?_
            refine ap_oA (pre := []) rfl (fun a_3 _ hg3 => ?_)
            refine at_get (v := .int (tF τ a_3 0)) (C := RX0) (T := TX0) (N := 10) (ci := 0) (j := 0) hC (80 + 7 * a_3) dX3_latestBegun_47 inX0 (cla hg3) rfl (by decide) lf_X3_44 rfl rfl ?_
            refine at_iload_n (j := 2) hC rfl rfl dX3_latestBegun_50 ?_
            refine ap_icmp_gt (tgt := 60) hC dX3_latestBegun_51 rfl (fun _ => ?_) (fun _ => ?_)
            · refine at_drop (lv' := [(0, .ref 57), (2, .int a2), (3, .int a3), (4, .int a4)]) [1, 2, 3, 4] rfl ?_
              exact t_Lw_latestBegun_J60 hC hR τ (Lw_latestBegun_L5_r τ n) hk_5 a2 a3 a4
            · refine at_aloadV (j := 0) hC rfl dX3_latestBegun_54 ?_
              refine ap_oA (pre := []) rfl (fun a_4 _ hg4 => ?_)
              refine at_get (v := .int (tF τ a_4 0)) (C := RX0) (T := TX0) (N := 10) (ci := 0) (j := 0) hC (80 + 7 * a_4) dX3_latestBegun_56 inX0 (cla hg4) rfl (by decide) lf_X3_44 rfl rfl ?_
              refine at_istore_n (lv' := [(3, .int (tF τ a_4 0)), (5, vr v1), (0, .ref 57), (2, .int a2), (4, .int a4)]) hC rfl dX3_latestBegun_59 (by decide) rfl ?_
              refine at_drop (lv' := [(0, .ref 57), (2, .int a2), (3, .int (tF τ a_4 0)), (4, .int a4)]) [2, 3, 0, 4] rfl ?_
              exact t_Lw_latestBegun_J60 hC hR τ (Lw_latestBegun_L5_r τ n) hk_5 a2 (tF τ a_4 0) a4
set_option maxRecDepth 100000 in
theorem c_Lw_latestBegun (τ : XS) (p0 : Int32) (p1 : Int32) : Ct z (wX z σ) rI eqA yX3_latestBegun cX3_latestBegun 6 (some .int) 1 0 0 [.ref 57, .int p0, .int p1] τ ((Lw_latestBegun τ p0 p1).map fun r => (r, τ)) := by
  refine Ct.of (by decide) (Nat.le_of_ble_eq_true rfl) (fun ad x hC hR _ => ?_)
  show AT z x 6 (wX z σ) rI (eqA ad) 0 0 0 0 ad 0 [(0, .ref 57), (1, .int p0), (2, .int p1)] [] τ ((Lw_latestBegun τ p0 p1).map fun r => (r, τ))
  unfold Lw_latestBegun
  refine at_iload_n (j := 1) hC rfl rfl dX3_latestBegun_0 ?_
  refine at_istore_n (lv' := [(3, .int p0), (0, .ref 57), (1, .int p0), (2, .int p1)]) hC rfl dX3_latestBegun_1 (by decide) rfl ?_
  refine at_iconst hC ic_0 dX3_latestBegun_2 ?_
  refine at_istore (lv' := [(4, .int 0), (3, .int p0), (0, .ref 57), (1, .int p0), (2, .int p1)]) hC dX3_latestBegun_3 (by decide) rfl ?_
  refine at_drop (lv' := [(0, .ref 57), (2, .int p1), (3, .int p0), (4, .int 0)]) [2, 4, 1, 0] rfl ?_
  exact t_Lw_latestBegun_L5 hC hR τ 100000 p1 p0 0
theorem dX2_yearlyRent_0 : decode cX2_yearlyRent 0 = .ok (.aload_n 0, 1) := by decide +kernel
theorem dX2_yearlyRent_1 : decode cX2_yearlyRent 1 = .ok (.iload_n 1, 1) := by decide +kernel
theorem dX2_yearlyRent_2 : decode cX2_yearlyRent 2 = .ok (.iload_n 2, 1) := by decide +kernel
theorem dX2_yearlyRent_3 : decode cX2_yearlyRent 3 = .ok (.invokevirtual 96, 3) := by decide +kernel
theorem dX2_yearlyRent_6 : decode cX2_yearlyRent 6 = .ok (.istore_n 3, 1) := by decide +kernel
theorem dX2_yearlyRent_7 : decode cX2_yearlyRent 7 = .ok (.iload_n 3, 1) := by decide +kernel
theorem dX2_yearlyRent_8 : decode cX2_yearlyRent 8 = .ok (.ifCond .ge 5, 3) := by decide +kernel
theorem dX2_yearlyRent_11 : decode cX2_yearlyRent 11 = .ok (.lconst 0, 1) := by decide +kernel
theorem dX2_yearlyRent_12 : decode cX2_yearlyRent 12 = .ok (.lreturn, 1) := by decide +kernel
theorem dX2_yearlyRent_13 : decode cX2_yearlyRent 13 = .ok (.aload_n 0, 1) := by decide +kernel
theorem dX2_yearlyRent_14 : decode cX2_yearlyRent 14 = .ok (.getfield 19, 3) := by decide +kernel
theorem dX2_yearlyRent_17 : decode cX2_yearlyRent 17 = .ok (.getfield 59, 3) := by decide +kernel
theorem dX2_yearlyRent_20 : decode cX2_yearlyRent 20 = .ok (.iload_n 3, 1) := by decide +kernel
theorem dX2_yearlyRent_21 : decode cX2_yearlyRent 21 = .ok (.iaload, 1) := by decide +kernel
theorem dX2_yearlyRent_22 : decode cX2_yearlyRent 22 = .ok (.iconst 1, 1) := by decide +kernel
theorem dX2_yearlyRent_23 : decode cX2_yearlyRent 23 = .ok (.isub, 1) := by decide +kernel
theorem dX2_yearlyRent_24 : decode cX2_yearlyRent 24 = .ok (.istore 4, 2) := by decide +kernel
theorem dX2_yearlyRent_26 : decode cX2_yearlyRent 26 = .ok (.aload_n 0, 1) := by decide +kernel
theorem dX2_yearlyRent_27 : decode cX2_yearlyRent 27 = .ok (.getfield 23, 3) := by decide +kernel
theorem dX2_yearlyRent_30 : decode cX2_yearlyRent 30 = .ok (.aload_n 0, 1) := by decide +kernel
theorem dX2_yearlyRent_31 : decode cX2_yearlyRent 31 = .ok (.getfield 19, 3) := by decide +kernel
theorem dX2_yearlyRent_34 : decode cX2_yearlyRent 34 = .ok (.iload_n 3, 1) := by decide +kernel
theorem dX2_yearlyRent_35 : decode cX2_yearlyRent 35 = .ok (.iload 4, 2) := by decide +kernel
theorem dX2_yearlyRent_37 : decode cX2_yearlyRent 37 = .ok (.invokevirtual 71, 3) := by decide +kernel
theorem dX2_yearlyRent_40 : decode cX2_yearlyRent 40 = .ok (.aload_n 0, 1) := by decide +kernel
theorem dX2_yearlyRent_41 : decode cX2_yearlyRent 41 = .ok (.getfield 31, 3) := by decide +kernel
theorem dX2_yearlyRent_44 : decode cX2_yearlyRent 44 = .ok (.aload_n 0, 1) := by decide +kernel
theorem dX2_yearlyRent_45 : decode cX2_yearlyRent 45 = .ok (.getfield 77, 3) := by decide +kernel
theorem dX2_yearlyRent_48 : decode cX2_yearlyRent 48 = .ok (.iconst 1, 1) := by decide +kernel
theorem dX2_yearlyRent_49 : decode cX2_yearlyRent 49 = .ok (.aload_n 0, 1) := by decide +kernel
theorem dX2_yearlyRent_50 : decode cX2_yearlyRent 50 = .ok (.getfield 23, 3) := by decide +kernel
theorem dX2_yearlyRent_53 : decode cX2_yearlyRent 53 = .ok (.iconst 1, 1) := by decide +kernel
theorem dX2_yearlyRent_54 : decode cX2_yearlyRent 54 = .ok (.aload_n 0, 1) := by decide +kernel
theorem dX2_yearlyRent_55 : decode cX2_yearlyRent 55 = .ok (.getfield 23, 3) := by decide +kernel
theorem dX2_yearlyRent_58 : decode cX2_yearlyRent 58 = .ok (.iload 4, 2) := by decide +kernel
theorem dX2_yearlyRent_60 : decode cX2_yearlyRent 60 = .ok (.iload_n 2, 1) := by decide +kernel
theorem dX2_yearlyRent_61 : decode cX2_yearlyRent 61 = .ok (.invokevirtual 165, 3) := by decide +kernel
theorem dX2_yearlyRent_64 : decode cX2_yearlyRent 64 = .ok (.invokevirtual 80, 3) := by decide +kernel
theorem dX2_yearlyRent_67 : decode cX2_yearlyRent 67 = .ok (.invokevirtual 83, 3) := by decide +kernel
theorem dX2_yearlyRent_70 : decode cX2_yearlyRent 70 = .ok (.i2l, 1) := by decide +kernel
theorem dX2_yearlyRent_71 : decode cX2_yearlyRent 71 = .ok (.lreturn, 1) := by decide +kernel
set_option maxRecDepth 100000 in
theorem c_Cn_yearlyRent (τ : XS) (p0 : Int32) (p1 : Int32) : Ct z (wX z σ) rJ eqA yX2_yearlyRent cX2_yearlyRent 5 (some .long) 7 0 0 [.ref 76, .int p0, .int p1] τ (Cn_yearlyRent τ p0 p1) := by
  refine Ct.of (by decide) (Nat.le_of_ble_eq_true rfl) (fun ad x hC hR _ => ?_)
  show AT z x 5 (wX z σ) rJ (eqA ad) 0 0 0 0 ad 0 [(0, .ref 76), (1, .int p0), (2, .int p1)] [] τ (Cn_yearlyRent τ p0 p1)
  unfold Cn_yearlyRent
  refine at_aload_n (j := 0) hC rfl rfl dX2_yearlyRent_0 ?_
  refine at_iload_n (j := 1) hC rfl rfl dX2_yearlyRent_1 ?_
  refine at_iload_n (j := 2) hC rfl rfl dX2_yearlyRent_2 ?_
  refine at_callVpI hC hR lk_X2_96 (c_Cn_deadHusband τ p0 p1) dX2_yearlyRent_3 recX2 rfl rfl ⟨by decide, by decide⟩ (Nat.le_of_ble_eq_true rfl) ⟨Nat.le_refl 0, Nat.le_refl 0⟩ (fun r1 _ => ?_)
  refine at_istore_n (lv' := [(3, .int r1), (0, .ref 76), (1, .int p0), (2, .int p1)]) hC rfl dX2_yearlyRent_6 (by decide) rfl ?_
  refine at_iload_n (j := 0) hC rfl rfl dX2_yearlyRent_7 ?_
  refine at_if_ge (tgt := 13) hC dX2_yearlyRent_8 rfl (fun _ => ?_) (fun _ => ?_)
  · refine at_aload_n (j := 1) hC rfl rfl dX2_yearlyRent_13 ?_
    refine gf_X2_19 hC dX2_yearlyRent_14 ?_
    refine gf_X2_59 hC dX2_yearlyRent_17 ?_
    refine at_iload_n (j := 0) hC rfl rfl dX2_yearlyRent_20 ?_
    refine at_iald hC 50 dX2_yearlyRent_21 cl_50 (fun v2 => ?_)
    refine at_iconst hC ic_1 dX2_yearlyRent_22 ?_
    refine at_isub hC dX2_yearlyRent_23 ?_
    refine at_istore (lv' := [(4, .int (v2 - 1)), (3, .int r1), (0, .ref 76), (1, .int p0), (2, .int p1)]) hC dX2_yearlyRent_24 (by decide) rfl ?_
    refine at_aload_n (j := 2) hC rfl rfl dX2_yearlyRent_26 ?_
    refine gf_X2_23 hC dX2_yearlyRent_27 ?_
    refine at_aload_n (j := 2) hC rfl rfl dX2_yearlyRent_30 ?_
    refine gf_X2_19 hC dX2_yearlyRent_31 ?_
    refine at_iload_n (j := 1) hC rfl rfl dX2_yearlyRent_34 ?_
    refine at_iload (j := 0) hC rfl dX2_yearlyRent_35 ?_
    refine at_callVU hC hR lk_X2_71 (c_Lw_nameFor τ r1 (v2 - 1)) dX2_yearlyRent_37 recX3 rfl rfl ⟨by decide, by decide⟩ (Nat.le_of_ble_eq_true rfl) ⟨Nat.le_refl 0, Nat.le_refl 0⟩ (fun r3 r3s _ => ?_)
    refine at_aload_n (j := 2) hC rfl rfl dX2_yearlyRent_40 ?_
    refine gf_X2_31 hC dX2_yearlyRent_41 ?_
    refine at_aload_n (j := 2) hC rfl rfl dX2_yearlyRent_44 ?_
    refine gf_X2_77 hC dX2_yearlyRent_45 ?_
    refine at_iconst hC ic_1 dX2_yearlyRent_48 ?_
    refine at_aload_n (j := 2) hC rfl rfl dX2_yearlyRent_49 ?_
    refine gf_X2_23 hC dX2_yearlyRent_50 ?_
    refine at_iconst hC ic_1 dX2_yearlyRent_53 ?_
    refine at_aload_n (j := 2) hC rfl rfl dX2_yearlyRent_54 ?_
    refine gf_X2_23 hC dX2_yearlyRent_55 ?_
    refine at_iload (j := 0) hC rfl dX2_yearlyRent_58 ?_
    refine at_iload_n (j := 4) hC rfl rfl dX2_yearlyRent_60 ?_
    refine at_callVpI hC hR lk_X2_165 (c_Lw_latestBegun r3s (v2 - 1) p1) dX2_yearlyRent_61 recX3 rfl rfl ⟨by decide, by decide⟩ (Nat.le_of_ble_eq_true rfl) ⟨Nat.le_refl 0, Nat.le_refl 0⟩ (fun r4 _ => ?_)
    refine at_callVI hC hR lk_X2_80 (c_Lw_ruling r3s 1 r4) dX2_yearlyRent_64 recX3 rfl rfl ⟨by decide, by decide⟩ (Nat.le_of_ble_eq_true rfl) ⟨Nat.le_refl 0, Nat.le_refl 0⟩ (fun r5 r5s _ => ?_)
    refine at_callVpI hC hR lk_X2_83 (c_Tr_stepped r5s (r3s.1 207) 1 r5) dX2_yearlyRent_67 recX9 rfl rfl ⟨by decide, by decide⟩ (Nat.le_of_ble_eq_true rfl) ⟨Nat.le_refl 0, Nat.le_refl 0⟩ (fun r6 _ => ?_)
    refine at_i2l hC dX2_yearlyRent_70 ?_
    exact at_lret (F := eqA ad) (ra := rJ) hC dX2_yearlyRent_71 rfl (Nat.le_refl 0) (Nat.le_refl 0) rfl
  · refine at_lconst hC lc_0 dX2_yearlyRent_11 ?_
    exact at_lret (F := eqA ad) (ra := rJ) hC dX2_yearlyRent_12 rfl (Nat.le_refl 0) (Nat.le_refl 0) rfl
end G
