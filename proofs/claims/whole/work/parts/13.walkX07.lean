section G
variable {z : ZZ} {x : XX} {ad : Nat → Nat} {σ : MS}
theorem dX5_allComes_0 : decode cX5_allComes 0 = .ok (.lconst 0, 1) := by decide +kernel
theorem dX5_allComes_1 : decode cX5_allComes 1 = .ok (.lstore_n 2, 1) := by decide +kernel
theorem dX5_allComes_2 : decode cX5_allComes 2 = .ok (.iconst 0, 1) := by decide +kernel
theorem dX5_allComes_3 : decode cX5_allComes 3 = .ok (.istore 4, 2) := by decide +kernel
theorem dX5_allComes_5 : decode cX5_allComes 5 = .ok (.iload 4, 2) := by decide +kernel
theorem dX5_allComes_7 : decode cX5_allComes 7 = .ok (.aload_n 0, 1) := by decide +kernel
theorem dX5_allComes_8 : decode cX5_allComes 8 = .ok (.getfield 27, 3) := by decide +kernel
theorem dX5_allComes_11 : decode cX5_allComes 11 = .ok (.if_icmp .ge 19, 3) := by decide +kernel
theorem dX5_allComes_14 : decode cX5_allComes 14 = .ok (.lload_n 2, 1) := by decide +kernel
theorem dX5_allComes_15 : decode cX5_allComes 15 = .ok (.aload_n 0, 1) := by decide +kernel
theorem dX5_allComes_16 : decode cX5_allComes 16 = .ok (.iload 4, 2) := by decide +kernel
theorem dX5_allComes_18 : decode cX5_allComes 18 = .ok (.iload_n 1, 1) := by decide +kernel
theorem dX5_allComes_19 : decode cX5_allComes 19 = .ok (.invokevirtual 31, 3) := by decide +kernel
theorem dX5_allComes_22 : decode cX5_allComes 22 = .ok (.ladd, 1) := by decide +kernel
theorem dX5_allComes_23 : decode cX5_allComes 23 = .ok (.lstore_n 2, 1) := by decide +kernel
theorem dX5_allComes_24 : decode cX5_allComes 24 = .ok (.iinc 4 1, 3) := by decide +kernel
theorem dX5_allComes_27 : decode cX5_allComes 27 = .ok (.goto (-22), 3) := by decide +kernel
theorem dX5_allComes_30 : decode cX5_allComes 30 = .ok (.lload_n 2, 1) := by decide +kernel
theorem dX5_allComes_31 : decode cX5_allComes 31 = .ok (.lreturn, 1) := by decide +kernel
set_option maxRecDepth 100000 in
theorem t_Ln_allComes_L5 (hC : CX z ad x cX5_allComes RX5 5 (some .long)) (hR : x.2.2.1 = rmk 2 0 0) (τ : XS) (n : Nat) (a1 : Int32) (a2 : Int64) (a4 : Int32) : AT z x 5 (wX z σ) rJ (eqA ad) 0 0 0 0 ad 5 [(0, .ref 62), (1, .int a1), (2, .long a2), (4, .int a4)] [] τ ((Ln_allComes_L5 n τ a1 a2 a4).map fun r => (r, τ)) := by
  revert a1 a2 a4
  show ∀ (a1 : Int32) (a2 : Int64) (a4 : Int32), AT z x 5 (wX z σ) rJ (eqA ad) 0 0 0 0 ad 5 [(0, .ref 62), (1, .int a1), (2, .long a2), (4, .int a4)] [] τ ((Ln_allComes_L5_r τ n a1 a2 a4).map fun r => (r, τ))
  induction n with
  | zero => intro a1 a2 a4; exact ap_none
  | succ n hk_5 =>
    intro a1 a2 a4
    unfold Ln_allComes_L5_r
    refine at_iload (j := 3) hC rfl dX5_allComes_5 ?_
    refine at_aload_n (j := 0) hC rfl rfl dX5_allComes_7 ?_
    refine gf_X5_27 hC dX5_allComes_8 ?_
    refine ap_icmp_ge (tgt := 30) hC dX5_allComes_11 rfl (fun _ => ?_) (fun _ => ?_)
    · refine at_lload_n (j := 2) hC rfl rfl dX5_allComes_30 ?_
      exact at_lret (F := eqA ad) (ra := rJ) hC dX5_allComes_31 rfl (Nat.le_refl 0) (Nat.le_refl 0) rfl
    · refine at_lload_n (j := 2) hC rfl rfl dX5_allComes_14 ?_
      refine at_aload_n (j := 0) hC rfl rfl dX5_allComes_15 ?_
      refine at_iload (j := 3) hC rfl dX5_allComes_16 ?_
      refine at_iload_n (j := 1) hC rfl rfl dX5_allComes_18 ?_
      refine ap_callVJ hC hR lk_X5_31 (c_Ln_comesOf τ a4 a1) dX5_allComes_19 recX5 rfl rfl ⟨by decide, by decide⟩ (Nat.le_of_ble_eq_true rfl) ⟨Nat.le_refl 0, Nat.le_refl 0⟩ (fun r1 _ => ?_)
      refine at_ladd hC dX5_allComes_22 ?_
      refine at_lstore_n (lv' := [(2, .long (a2 + r1)), (0, .ref 62), (1, .int a1), (4, .int a4)]) hC rfl dX5_allComes_23 (by decide) rfl ?_
      refine at_iinc (j := 3) (v := a4 + 1) (lv' := [(4, .int (a4 + 1)), (2, .long (a2 + r1)), (0, .ref 62), (1, .int a1)]) hC dX5_allComes_24 rfl rfl (by decide) rfl ?_
      refine at_goto (tgt := 5) hC dX5_allComes_27 rfl ?_
      refine at_drop (lv' := [(0, .ref 62), (1, .int a1), (2, .long (a2 + r1)), (4, .int (a4 + 1))]) [2, 3, 1, 0] rfl ?_
      exact hk_5 a1 (a2 + r1) (a4 + 1)
set_option maxRecDepth 100000 in
theorem c_Ln_allComes (τ : XS) (p0 : Int32) : Ct z (wX z σ) rJ eqA yX5_allComes cX5_allComes 5 (some .long) 2 0 0 [.ref 62, .int p0] τ ((Ln_allComes τ p0).map fun r => (r, τ)) := by
  refine Ct.of (by decide) (Nat.le_of_ble_eq_true rfl) (fun ad x hC hR _ => ?_)
  show AT z x 5 (wX z σ) rJ (eqA ad) 0 0 0 0 ad 0 [(0, .ref 62), (1, .int p0)] [] τ ((Ln_allComes τ p0).map fun r => (r, τ))
  unfold Ln_allComes
  refine at_lconst hC lc_0 dX5_allComes_0 ?_
  refine at_lstore_n (lv' := [(2, .long 0), (0, .ref 62), (1, .int p0)]) hC rfl dX5_allComes_1 (by decide) rfl ?_
  refine at_iconst hC ic_0 dX5_allComes_2 ?_
  refine at_istore (lv' := [(4, .int 0), (2, .long 0), (0, .ref 62), (1, .int p0)]) hC dX5_allComes_3 (by decide) rfl ?_
  refine at_drop (lv' := [(0, .ref 62), (1, .int p0), (2, .long 0), (4, .int 0)]) [2, 3, 1, 0] rfl ?_
  exact t_Ln_allComes_L5 hC hR τ 100000 p0 0 0
theorem dX2_apartFromMembers_0 : decode cX2_apartFromMembers 0 = .ok (.aload_n 0, 1) := by decide +kernel
theorem dX2_apartFromMembers_1 : decode cX2_apartFromMembers 1 = .ok (.iload_n 1, 1) := by decide +kernel
theorem dX2_apartFromMembers_2 : decode cX2_apartFromMembers 2 = .ok (.invokevirtual 187, 3) := by decide +kernel
theorem dX2_apartFromMembers_5 : decode cX2_apartFromMembers 5 = .ok (.aload_n 0, 1) := by decide +kernel
theorem dX2_apartFromMembers_6 : decode cX2_apartFromMembers 6 = .ok (.getfield 27, 3) := by decide +kernel
theorem dX2_apartFromMembers_9 : decode cX2_apartFromMembers 9 = .ok (.iload_n 1, 1) := by decide +kernel
theorem dX2_apartFromMembers_10 : decode cX2_apartFromMembers 10 = .ok (.invokevirtual 190, 3) := by decide +kernel
theorem dX2_apartFromMembers_13 : decode cX2_apartFromMembers 13 = .ok (.ladd, 1) := by decide +kernel
theorem dX2_apartFromMembers_14 : decode cX2_apartFromMembers 14 = .ok (.lstore_n 2, 1) := by decide +kernel
theorem dX2_apartFromMembers_15 : decode cX2_apartFromMembers 15 = .ok (.iconst 0, 1) := by decide +kernel
theorem dX2_apartFromMembers_16 : decode cX2_apartFromMembers 16 = .ok (.istore 4, 2) := by decide +kernel
theorem dX2_apartFromMembers_18 : decode cX2_apartFromMembers 18 = .ok (.iload 4, 2) := by decide +kernel
theorem dX2_apartFromMembers_20 : decode cX2_apartFromMembers 20 = .ok (.aload_n 0, 1) := by decide +kernel
theorem dX2_apartFromMembers_21 : decode cX2_apartFromMembers 21 = .ok (.getfield 15, 3) := by decide +kernel
theorem dX2_apartFromMembers_24 : decode cX2_apartFromMembers 24 = .ok (.getfield 54, 3) := by decide +kernel
theorem dX2_apartFromMembers_27 : decode cX2_apartFromMembers 27 = .ok (.if_icmp .ge 101, 3) := by decide +kernel
theorem dX2_apartFromMembers_30 : decode cX2_apartFromMembers 30 = .ok (.aload_n 0, 1) := by decide +kernel
theorem dX2_apartFromMembers_31 : decode cX2_apartFromMembers 31 = .ok (.getfield 15, 3) := by decide +kernel
theorem dX2_apartFromMembers_34 : decode cX2_apartFromMembers 34 = .ok (.getfield 195, 3) := by decide +kernel
theorem dX2_apartFromMembers_37 : decode cX2_apartFromMembers 37 = .ok (.iload 4, 2) := by decide +kernel
theorem dX2_apartFromMembers_39 : decode cX2_apartFromMembers 39 = .ok (.iaload, 1) := by decide +kernel
theorem dX2_apartFromMembers_40 : decode cX2_apartFromMembers 40 = .ok (.iconst 1, 1) := by decide +kernel
theorem dX2_apartFromMembers_41 : decode cX2_apartFromMembers 41 = .ok (.if_icmp .ne 39, 3) := by decide +kernel
theorem dX2_apartFromMembers_44 : decode cX2_apartFromMembers 44 = .ok (.aload_n 0, 1) := by decide +kernel
theorem dX2_apartFromMembers_45 : decode cX2_apartFromMembers 45 = .ok (.getfield 19, 3) := by decide +kernel
theorem dX2_apartFromMembers_48 : decode cX2_apartFromMembers 48 = .ok (.getfield 121, 3) := by decide +kernel
theorem dX2_apartFromMembers_51 : decode cX2_apartFromMembers 51 = .ok (.iload 4, 2) := by decide +kernel
theorem dX2_apartFromMembers_53 : decode cX2_apartFromMembers 53 = .ok (.iaload, 1) := by decide +kernel
theorem dX2_apartFromMembers_54 : decode cX2_apartFromMembers 54 = .ok (.aload_n 0, 1) := by decide +kernel
theorem dX2_apartFromMembers_55 : decode cX2_apartFromMembers 55 = .ok (.getfield 19, 3) := by decide +kernel
theorem dX2_apartFromMembers_58 : decode cX2_apartFromMembers 58 = .ok (.getfield 124, 3) := by decide +kernel
theorem dX2_apartFromMembers_61 : decode cX2_apartFromMembers 61 = .ok (.iload 4, 2) := by decide +kernel
theorem dX2_apartFromMembers_63 : decode cX2_apartFromMembers 63 = .ok (.iaload, 1) := by decide +kernel
theorem dX2_apartFromMembers_64 : decode cX2_apartFromMembers 64 = .ok (.if_icmp .ge 58, 3) := by decide +kernel
theorem dX2_apartFromMembers_67 : decode cX2_apartFromMembers 67 = .ok (.lload_n 2, 1) := by decide +kernel
theorem dX2_apartFromMembers_68 : decode cX2_apartFromMembers 68 = .ok (.aload_n 0, 1) := by decide +kernel
theorem dX2_apartFromMembers_69 : decode cX2_apartFromMembers 69 = .ok (.iload 4, 2) := by decide +kernel
theorem dX2_apartFromMembers_71 : decode cX2_apartFromMembers 71 = .ok (.iload_n 1, 1) := by decide +kernel
theorem dX2_apartFromMembers_72 : decode cX2_apartFromMembers 72 = .ok (.invokevirtual 198, 3) := by decide +kernel
theorem dX2_apartFromMembers_75 : decode cX2_apartFromMembers 75 = .ok (.lsub, 1) := by decide +kernel
theorem dX2_apartFromMembers_76 : decode cX2_apartFromMembers 76 = .ok (.lstore_n 2, 1) := by decide +kernel
theorem dX2_apartFromMembers_77 : decode cX2_apartFromMembers 77 = .ok (.goto 45, 3) := by decide +kernel
theorem dX2_apartFromMembers_80 : decode cX2_apartFromMembers 80 = .ok (.aload_n 0, 1) := by decide +kernel
theorem dX2_apartFromMembers_81 : decode cX2_apartFromMembers 81 = .ok (.getfield 19, 3) := by decide +kernel
theorem dX2_apartFromMembers_84 : decode cX2_apartFromMembers 84 = .ok (.getfield 59, 3) := by decide +kernel
theorem dX2_apartFromMembers_87 : decode cX2_apartFromMembers 87 = .ok (.iload 4, 2) := by decide +kernel
theorem dX2_apartFromMembers_89 : decode cX2_apartFromMembers 89 = .ok (.iaload, 1) := by decide +kernel
theorem dX2_apartFromMembers_90 : decode cX2_apartFromMembers 90 = .ok (.bipush 100, 2) := by decide +kernel
theorem dX2_apartFromMembers_92 : decode cX2_apartFromMembers 92 = .ok (.idiv, 1) := by decide +kernel
theorem dX2_apartFromMembers_93 : decode cX2_apartFromMembers 93 = .ok (.iload_n 1, 1) := by decide +kernel
theorem dX2_apartFromMembers_94 : decode cX2_apartFromMembers 94 = .ok (.if_icmp .ne 28, 3) := by decide +kernel
theorem dX2_apartFromMembers_97 : decode cX2_apartFromMembers 97 = .ok (.aload_n 0, 1) := by decide +kernel
theorem dX2_apartFromMembers_98 : decode cX2_apartFromMembers 98 = .ok (.iload 4, 2) := by decide +kernel
theorem dX2_apartFromMembers_100 : decode cX2_apartFromMembers 100 = .ok (.aload_n 0, 1) := by decide +kernel
theorem dX2_apartFromMembers_101 : decode cX2_apartFromMembers 101 = .ok (.getfield 15, 3) := by decide +kernel
theorem dX2_apartFromMembers_104 : decode cX2_apartFromMembers 104 = .ok (.getfield 54, 3) := by decide +kernel
theorem dX2_apartFromMembers_107 : decode cX2_apartFromMembers 107 = .ok (.invokevirtual 180, 3) := by decide +kernel
theorem dX2_apartFromMembers_110 : decode cX2_apartFromMembers 110 = .ok (.ifCond .le 12, 3) := by decide +kernel
theorem dX2_apartFromMembers_113 : decode cX2_apartFromMembers 113 = .ok (.lload_n 2, 1) := by decide +kernel
theorem dX2_apartFromMembers_114 : decode cX2_apartFromMembers 114 = .ok (.aload_n 0, 1) := by decide +kernel
theorem dX2_apartFromMembers_115 : decode cX2_apartFromMembers 115 = .ok (.iload 4, 2) := by decide +kernel
theorem dX2_apartFromMembers_117 : decode cX2_apartFromMembers 117 = .ok (.invokevirtual 183, 3) := by decide +kernel
theorem dX2_apartFromMembers_120 : decode cX2_apartFromMembers 120 = .ok (.lsub, 1) := by decide +kernel
theorem dX2_apartFromMembers_121 : decode cX2_apartFromMembers 121 = .ok (.lstore_n 2, 1) := by decide +kernel
theorem dX2_apartFromMembers_122 : decode cX2_apartFromMembers 122 = .ok (.iinc 4 1, 3) := by decide +kernel
theorem dX2_apartFromMembers_125 : decode cX2_apartFromMembers 125 = .ok (.goto (-107), 3) := by decide +kernel
theorem dX2_apartFromMembers_128 : decode cX2_apartFromMembers 128 = .ok (.lload_n 2, 1) := by decide +kernel
theorem dX2_apartFromMembers_129 : decode cX2_apartFromMembers 129 = .ok (.lreturn, 1) := by decide +kernel
set_option maxRecDepth 100000 in
theorem t_Cn_apartFromMembers_J122 (hC : CX z ad x cX2_apartFromMembers RX2 5 (some .long)) (hR : x.2.2.1 = rmk 9 0 0) (k_18 : XS → Int32 → Int64 → Int32 → Option (Int64 × XS)) (hk_18 : ∀ (τ : XS) (a1 : Int32) (a2 : Int64) (a4 : Int32), AT z x 5 (wX z σ) rJ (eqA ad) 0 0 0 0 ad 18 [(0, .ref 76), (1, .int a1), (2, .long a2), (4, .int a4)] [] τ (k_18 τ a1 a2 a4)) (τ : XS) (a1 : Int32) (a2 : Int64) (a4 : Int32) : AT z x 5 (wX z σ) rJ (eqA ad) 0 0 0 0 ad 122 [(0, .ref 76), (1, .int a1), (2, .long a2), (4, .int a4)] [] τ (Cn_apartFromMembers_J122 k_18 τ a1 a2 a4) := by
  unfold Cn_apartFromMembers_J122
  refine at_iinc (j := 3) (v := a4 + 1) (lv' := [(4, .int (a4 + 1)), (0, .ref 76), (1, .int a1), (2, .long a2)]) hC dX2_apartFromMembers_122 rfl rfl (by decide) rfl ?_
  refine at_goto (tgt := 18) hC dX2_apartFromMembers_125 rfl ?_
  refine at_drop (lv' := [(0, .ref 76), (1, .int a1), (2, .long a2), (4, .int (a4 + 1))]) [1, 2, 3, 0] rfl ?_
  exact hk_18 τ a1 a2 (a4 + 1)
set_option maxRecDepth 100000 in
theorem t_Cn_apartFromMembers_L18 (hC : CX z ad x cX2_apartFromMembers RX2 5 (some .long)) (hR : x.2.2.1 = rmk 9 0 0) (n : Nat) (τ : XS) (a1 : Int32) (a2 : Int64) (a4 : Int32) : AT z x 5 (wX z σ) rJ (eqA ad) 0 0 0 0 ad 18 [(0, .ref 76), (1, .int a1), (2, .long a2), (4, .int a4)] [] τ (Cn_apartFromMembers_L18 n τ a1 a2 a4) := by
  revert τ a1 a2 a4
  show ∀ (τ : XS) (a1 : Int32) (a2 : Int64) (a4 : Int32), AT z x 5 (wX z σ) rJ (eqA ad) 0 0 0 0 ad 18 [(0, .ref 76), (1, .int a1), (2, .long a2), (4, .int a4)] [] τ (Cn_apartFromMembers_L18_r n τ a1 a2 a4)
  induction n with
  | zero => intro τ a1 a2 a4; exact at_none
  | succ n hk_18 =>
    intro τ a1 a2 a4
    unfold Cn_apartFromMembers_L18_r
    refine at_iload (j := 3) hC rfl dX2_apartFromMembers_18 ?_
    refine at_aload_n (j := 0) hC rfl rfl dX2_apartFromMembers_20 ?_
    refine gf_X2_15 hC dX2_apartFromMembers_21 ?_
    refine gf_X2_54 hC dX2_apartFromMembers_24 ?_
    refine at_icmp_ge (tgt := 128) hC dX2_apartFromMembers_27 rfl (fun _ => ?_) (fun _ => ?_)
    · refine at_lload_n (j := 2) hC rfl rfl dX2_apartFromMembers_128 ?_
      exact at_lret (F := eqA ad) (ra := rJ) hC dX2_apartFromMembers_129 rfl (Nat.le_refl 0) (Nat.le_refl 0) rfl
    · refine at_aload_n (j := 0) hC rfl rfl dX2_apartFromMembers_30 ?_
      refine gf_X2_15 hC dX2_apartFromMembers_31 ?_
      refine gf_X2_195 hC dX2_apartFromMembers_34 ?_
      refine at_iload (j := 3) hC rfl dX2_apartFromMembers_37 ?_
      refine at_iald hC 38 dX2_apartFromMembers_39 cl_38 (fun v3 => ?_)
      refine at_iconst hC ic_1 dX2_apartFromMembers_40 ?_
      refine at_icmp_ne (tgt := 80) hC dX2_apartFromMembers_41 rfl (fun _ => ?_) (fun _ => ?_)
      · refine at_aload_n (j := 0) hC rfl rfl dX2_apartFromMembers_80 ?_
        refine gf_X2_19 hC dX2_apartFromMembers_81 ?_
        refine gf_X2_59 hC dX2_apartFromMembers_84 ?_
        refine at_iload (j := 3) hC rfl dX2_apartFromMembers_87 ?_
        refine at_iald hC 50 dX2_apartFromMembers_89 cl_50 (fun v4 => ?_)
        refine at_bipush hC bi_100 dX2_apartFromMembers_90 ?_
        refine at_idiv hC (by decide) dX2_apartFromMembers_92 ?_
        refine at_iload_n (j := 1) hC rfl rfl dX2_apartFromMembers_93 ?_
        refine at_icmp_ne (tgt := 122) hC dX2_apartFromMembers_94 rfl (fun _ => ?_) (fun _ => ?_)
        · exact t_Cn_apartFromMembers_J122 hC hR (Cn_apartFromMembers_L18_r n) hk_18 τ a1 a2 a4
        · refine at_aload_n (j := 0) hC rfl rfl dX2_apartFromMembers_97 ?_
          refine at_iload (j := 3) hC rfl dX2_apartFromMembers_98 ?_
          refine at_aload_n (j := 0) hC rfl rfl dX2_apartFromMembers_100 ?_
          refine gf_X2_15 hC dX2_apartFromMembers_101 ?_
          refine gf_X2_54 hC dX2_apartFromMembers_104 ?_
          refine at_callVI hC hR lk_X2_180 (c_Cn_heirsBelow τ a4 (τ.1 104)) dX2_apartFromMembers_107 recX2 rfl rfl ⟨by decide, by decide⟩ (Nat.le_of_ble_eq_true rfl) ⟨Nat.le_refl 0, Nat.le_refl 0⟩ (fun r5 r5s _ => ?_)
          refine at_if_le (tgt := 122) hC dX2_apartFromMembers_110 rfl (fun _ => ?_) (fun _ => ?_)
          · exact t_Cn_apartFromMembers_J122 hC hR (Cn_apartFromMembers_L18_r n) hk_18 r5s a1 a2 a4
          · refine at_lload_n (j := 2) hC rfl rfl dX2_apartFromMembers_113 ?_
            refine at_aload_n (j := 0) hC rfl rfl dX2_apartFromMembers_114 ?_
            refine at_iload (j := 3) hC rfl dX2_apartFromMembers_115 ?_
            refine at_callVJ hC hR lk_X2_183 (c_Cn_sumLeft r5s a4) dX2_apartFromMembers_117 recX2 rfl rfl ⟨by decide, by decide⟩ (Nat.le_of_ble_eq_true rfl) ⟨Nat.le_refl 0, Nat.le_refl 0⟩ (fun r6 r6s _ => ?_)
            refine at_lsub hC dX2_apartFromMembers_120 ?_
            refine at_lstore_n (lv' := [(2, .long (a2 - r6)), (0, .ref 76), (1, .int a1), (4, .int a4)]) hC rfl dX2_apartFromMembers_121 (by decide) rfl ?_
            refine at_drop (lv' := [(0, .ref 76), (1, .int a1), (2, .long (a2 - r6)), (4, .int a4)]) [1, 2, 0, 3] rfl ?_
            exact t_Cn_apartFromMembers_J122 hC hR (Cn_apartFromMembers_L18_r n) hk_18 r6s a1 (a2 - r6) a4
      · refine at_aload_n (j := 0) hC rfl rfl dX2_apartFromMembers_44 ?_
        refine gf_X2_19 hC dX2_apartFromMembers_45 ?_
        refine gf_X2_121 hC dX2_apartFromMembers_48 ?_
        refine at_iload (j := 3) hC rfl dX2_apartFromMembers_51 ?_
        refine at_iald hC 51 dX2_apartFromMembers_53 cl_51 (fun v7 => ?_)
        refine at_aload_n (j := 0) hC rfl rfl dX2_apartFromMembers_54 ?_
        refine gf_X2_19 hC dX2_apartFromMembers_55 ?_
        refine gf_X2_124 hC dX2_apartFromMembers_58 ?_
        refine at_iload (j := 3) hC rfl dX2_apartFromMembers_61 ?_
        refine at_iald hC 52 dX2_apartFromMembers_63 cl_52 (fun v8 => ?_)
        refine at_icmp_ge (tgt := 122) hC dX2_apartFromMembers_64 rfl (fun _ => ?_) (fun _ => ?_)
        · exact t_Cn_apartFromMembers_J122 hC hR (Cn_apartFromMembers_L18_r n) hk_18 τ a1 a2 a4
        · refine at_lload_n (j := 2) hC rfl rfl dX2_apartFromMembers_67 ?_
          refine at_aload_n (j := 0) hC rfl rfl dX2_apartFromMembers_68 ?_
          refine at_iload (j := 3) hC rfl dX2_apartFromMembers_69 ?_
          refine at_iload_n (j := 1) hC rfl rfl dX2_apartFromMembers_71 ?_
          refine at_callVJ hC hR lk_X2_198 (c_Cn_rentOf τ a4 a1) dX2_apartFromMembers_72 recX2 rfl rfl ⟨by decide, by decide⟩ (Nat.le_of_ble_eq_true rfl) ⟨Nat.le_refl 0, Nat.le_refl 0⟩ (fun r9 r9s _ => ?_)
          refine at_lsub hC dX2_apartFromMembers_75 ?_
          refine at_lstore_n (lv' := [(2, .long (a2 - r9)), (0, .ref 76), (1, .int a1), (4, .int a4)]) hC rfl dX2_apartFromMembers_76 (by decide) rfl ?_
          refine at_goto (tgt := 122) hC dX2_apartFromMembers_77 rfl ?_
          refine at_drop (lv' := [(0, .ref 76), (1, .int a1), (2, .long (a2 - r9)), (4, .int a4)]) [1, 2, 0, 3] rfl ?_
          exact t_Cn_apartFromMembers_J122 hC hR (Cn_apartFromMembers_L18_r n) hk_18 r9s a1 (a2 - r9) a4
set_option maxRecDepth 100000 in
theorem c_Cn_apartFromMembers (τ : XS) (p0 : Int32) : Ct z (wX z σ) rJ eqA yX2_apartFromMembers cX2_apartFromMembers 5 (some .long) 9 0 0 [.ref 76, .int p0] τ (Cn_apartFromMembers τ p0) := by
  refine Ct.of (by decide) (Nat.le_of_ble_eq_true rfl) (fun ad x hC hR _ => ?_)
  show AT z x 5 (wX z σ) rJ (eqA ad) 0 0 0 0 ad 0 [(0, .ref 76), (1, .int p0)] [] τ (Cn_apartFromMembers τ p0)
  unfold Cn_apartFromMembers
  refine at_aload_n (j := 0) hC rfl rfl dX2_apartFromMembers_0 ?_
  refine at_iload_n (j := 1) hC rfl rfl dX2_apartFromMembers_1 ?_
  refine at_callVJ hC hR lk_X2_187 (c_Cn_vacantIn τ p0) dX2_apartFromMembers_2 recX2 rfl rfl ⟨by decide, by decide⟩ (Nat.le_of_ble_eq_true rfl) ⟨Nat.le_refl 0, Nat.le_refl 0⟩ (fun r1 r1s _ => ?_)
  refine at_aload_n (j := 0) hC rfl rfl dX2_apartFromMembers_5 ?_
  refine gf_X2_27 hC dX2_apartFromMembers_6 ?_
  refine at_iload_n (j := 1) hC rfl rfl dX2_apartFromMembers_9 ?_
  refine at_callVpJ hC hR lk_X2_190 (c_Ln_allComes r1s p0) dX2_apartFromMembers_10 recX5 rfl rfl ⟨by decide, by decide⟩ (Nat.le_of_ble_eq_true rfl) ⟨Nat.le_refl 0, Nat.le_refl 0⟩ (fun r2 _ => ?_)
  refine at_ladd hC dX2_apartFromMembers_13 ?_
  refine at_lstore_n (lv' := [(2, .long (r1 + r2)), (0, .ref 76), (1, .int p0)]) hC rfl dX2_apartFromMembers_14 (by decide) rfl ?_
  refine at_iconst hC ic_0 dX2_apartFromMembers_15 ?_
  refine at_istore (lv' := [(4, .int 0), (2, .long (r1 + r2)), (0, .ref 76), (1, .int p0)]) hC dX2_apartFromMembers_16 (by decide) rfl ?_
  refine at_drop (lv' := [(0, .ref 76), (1, .int p0), (2, .long (r1 + r2)), (4, .int 0)]) [2, 3, 1, 0] rfl ?_
  exact t_Cn_apartFromMembers_L18 hC hR 100000 r1s p0 (r1 + r2) 0
theorem dX2_chestBehind_0 : decode cX2_chestBehind 0 = .ok (.aload_n 0, 1) := by decide +kernel
theorem dX2_chestBehind_1 : decode cX2_chestBehind 1 = .ok (.getfield 201, 3) := by decide +kernel
theorem dX2_chestBehind_4 : decode cX2_chestBehind 4 = .ok (.i2l, 1) := by decide +kernel
theorem dX2_chestBehind_5 : decode cX2_chestBehind 5 = .ok (.lstore_n 2, 1) := by decide +kernel
theorem dX2_chestBehind_6 : decode cX2_chestBehind 6 = .ok (.iconst 0, 1) := by decide +kernel
theorem dX2_chestBehind_7 : decode cX2_chestBehind 7 = .ok (.istore 4, 2) := by decide +kernel
theorem dX2_chestBehind_9 : decode cX2_chestBehind 9 = .ok (.iload 4, 2) := by decide +kernel
theorem dX2_chestBehind_11 : decode cX2_chestBehind 11 = .ok (.iload_n 1, 1) := by decide +kernel
theorem dX2_chestBehind_12 : decode cX2_chestBehind 12 = .ok (.if_icmp .gt 53, 3) := by decide +kernel
theorem dX2_chestBehind_15 : decode cX2_chestBehind 15 = .ok (.lload_n 2, 1) := by decide +kernel
theorem dX2_chestBehind_16 : decode cX2_chestBehind 16 = .ok (.aload_n 0, 1) := by decide +kernel
theorem dX2_chestBehind_17 : decode cX2_chestBehind 17 = .ok (.iload 4, 2) := by decide +kernel
theorem dX2_chestBehind_19 : decode cX2_chestBehind 19 = .ok (.invokevirtual 204, 3) := by decide +kernel
theorem dX2_chestBehind_22 : decode cX2_chestBehind 22 = .ok (.ladd, 1) := by decide +kernel
theorem dX2_chestBehind_23 : decode cX2_chestBehind 23 = .ok (.lstore_n 2, 1) := by decide +kernel
theorem dX2_chestBehind_24 : decode cX2_chestBehind 24 = .ok (.iconst 0, 1) := by decide +kernel
theorem dX2_chestBehind_25 : decode cX2_chestBehind 25 = .ok (.istore 5, 2) := by decide +kernel
theorem dX2_chestBehind_27 : decode cX2_chestBehind 27 = .ok (.iload 5, 2) := by decide +kernel
theorem dX2_chestBehind_29 : decode cX2_chestBehind 29 = .ok (.aload_n 0, 1) := by decide +kernel
theorem dX2_chestBehind_30 : decode cX2_chestBehind 30 = .ok (.getfield 15, 3) := by decide +kernel
theorem dX2_chestBehind_33 : decode cX2_chestBehind 33 = .ok (.getfield 54, 3) := by decide +kernel
theorem dX2_chestBehind_36 : decode cX2_chestBehind 36 = .ok (.if_icmp .ge 23, 3) := by decide +kernel
theorem dX2_chestBehind_39 : decode cX2_chestBehind 39 = .ok (.lload_n 2, 1) := by decide +kernel
theorem dX2_chestBehind_40 : decode cX2_chestBehind 40 = .ok (.aload_n 0, 1) := by decide +kernel
theorem dX2_chestBehind_41 : decode cX2_chestBehind 41 = .ok (.getfield 19, 3) := by decide +kernel
theorem dX2_chestBehind_44 : decode cX2_chestBehind 44 = .ok (.iload 5, 2) := by decide +kernel
theorem dX2_chestBehind_46 : decode cX2_chestBehind 46 = .ok (.iload 4, 2) := by decide +kernel
theorem dX2_chestBehind_48 : decode cX2_chestBehind 48 = .ok (.invokevirtual 140, 3) := by decide +kernel
theorem dX2_chestBehind_51 : decode cX2_chestBehind 51 = .ok (.ladd, 1) := by decide +kernel
theorem dX2_chestBehind_52 : decode cX2_chestBehind 52 = .ok (.lstore_n 2, 1) := by decide +kernel
theorem dX2_chestBehind_53 : decode cX2_chestBehind 53 = .ok (.iinc 5 1, 3) := by decide +kernel
theorem dX2_chestBehind_56 : decode cX2_chestBehind 56 = .ok (.goto (-29), 3) := by decide +kernel
theorem dX2_chestBehind_59 : decode cX2_chestBehind 59 = .ok (.iinc 4 1, 3) := by decide +kernel
theorem dX2_chestBehind_62 : decode cX2_chestBehind 62 = .ok (.goto (-53), 3) := by decide +kernel
theorem dX2_chestBehind_65 : decode cX2_chestBehind 65 = .ok (.lload_n 2, 1) := by decide +kernel
theorem dX2_chestBehind_66 : decode cX2_chestBehind 66 = .ok (.lreturn, 1) := by decide +kernel
set_option maxRecDepth 100000 in
theorem t_Cn_chestBehind_L27 (hC : CX z ad x cX2_chestBehind RX2 6 (some .long)) (hR : x.2.2.1 = rmk 10 0 0) (k_9 : XS → Int32 → Int64 → Int32 → Option (Int64 × XS)) (hk_9 : ∀ (τ : XS) (a1 : Int32) (a2 : Int64) (a4 : Int32), AT z x 6 (wX z σ) rJ (eqA ad) 0 0 0 0 ad 9 [(0, .ref 76), (1, .int a1), (2, .long a2), (4, .int a4)] [] τ (k_9 τ a1 a2 a4)) (n : Nat) (τ : XS) (a1 : Int32) (a2 : Int64) (a4 : Int32) (a5 : Int32) : AT z x 6 (wX z σ) rJ (eqA ad) 0 0 0 0 ad 27 [(0, .ref 76), (1, .int a1), (2, .long a2), (4, .int a4), (5, .int a5)] [] τ (Cn_chestBehind_L27 k_9 n τ a1 a2 a4 a5) := by
  revert τ a1 a2 a4 a5
  show ∀ (τ : XS) (a1 : Int32) (a2 : Int64) (a4 : Int32) (a5 : Int32), AT z x 6 (wX z σ) rJ (eqA ad) 0 0 0 0 ad 27 [(0, .ref 76), (1, .int a1), (2, .long a2), (4, .int a4), (5, .int a5)] [] τ (Cn_chestBehind_L27_r k_9 n τ a1 a2 a4 a5)
  induction n with
  | zero => intro τ a1 a2 a4 a5; exact at_none
  | succ n hk_27 =>
    intro τ a1 a2 a4 a5
    unfold Cn_chestBehind_L27_r
    refine at_iload (j := 4) hC rfl dX2_chestBehind_27 ?_
    refine at_aload_n (j := 0) hC rfl rfl dX2_chestBehind_29 ?_
    refine gf_X2_15 hC dX2_chestBehind_30 ?_
    refine gf_X2_54 hC dX2_chestBehind_33 ?_
    refine at_icmp_ge (tgt := 59) hC dX2_chestBehind_36 rfl (fun _ => ?_) (fun _ => ?_)
    · refine at_iinc (j := 3) (v := a4 + 1) (lv' := [(4, .int (a4 + 1)), (0, .ref 76), (1, .int a1), (2, .long a2), (5, .int a5)]) hC dX2_chestBehind_59 rfl rfl (by decide) rfl ?_
      refine at_goto (tgt := 9) hC dX2_chestBehind_62 rfl ?_
      refine at_drop (lv' := [(0, .ref 76), (1, .int a1), (2, .long a2), (4, .int (a4 + 1))]) [1, 2, 3, 0] rfl ?_
      exact hk_9 τ a1 a2 (a4 + 1)
    · refine at_lload_n (j := 2) hC rfl rfl dX2_chestBehind_39 ?_
      refine at_aload_n (j := 0) hC rfl rfl dX2_chestBehind_40 ?_
      refine gf_X2_19 hC dX2_chestBehind_41 ?_
      refine at_iload (j := 4) hC rfl dX2_chestBehind_44 ?_
      refine at_iload (j := 3) hC rfl dX2_chestBehind_46 ?_
      refine at_callVpJ hC hR lk_X2_140 (c_Lv_paidIn τ a5 a4) dX2_chestBehind_48 recX4 rfl rfl ⟨by decide, by decide⟩ (Nat.le_of_ble_eq_true rfl) ⟨Nat.le_refl 0, Nat.le_refl 0⟩ (fun r2 _ => ?_)
      refine at_ladd hC dX2_chestBehind_51 ?_
      refine at_lstore_n (lv' := [(2, .long (a2 + r2)), (0, .ref 76), (1, .int a1), (4, .int a4), (5, .int a5)]) hC rfl dX2_chestBehind_52 (by decide) rfl ?_
      refine at_iinc (j := 4) (v := a5 + 1) (lv' := [(5, .int (a5 + 1)), (2, .long (a2 + r2)), (0, .ref 76), (1, .int a1), (4, .int a4)]) hC dX2_chestBehind_53 rfl rfl (by decide) rfl ?_
      refine at_goto (tgt := 27) hC dX2_chestBehind_56 rfl ?_
      refine at_drop (lv' := [(0, .ref 76), (1, .int a1), (2, .long (a2 + r2)), (4, .int a4), (5, .int (a5 + 1))]) [2, 3, 1, 4, 0] rfl ?_
      exact hk_27 τ a1 (a2 + r2) a4 (a5 + 1)
set_option maxRecDepth 100000 in
theorem t_Cn_chestBehind_L9 (hC : CX z ad x cX2_chestBehind RX2 6 (some .long)) (hR : x.2.2.1 = rmk 10 0 0) (n : Nat) (τ : XS) (a1 : Int32) (a2 : Int64) (a4 : Int32) : AT z x 6 (wX z σ) rJ (eqA ad) 0 0 0 0 ad 9 [(0, .ref 76), (1, .int a1), (2, .long a2), (4, .int a4)] [] τ (Cn_chestBehind_L9 n τ a1 a2 a4) := by
  revert τ a1 a2 a4
  show ∀ (τ : XS) (a1 : Int32) (a2 : Int64) (a4 : Int32), AT z x 6 (wX z σ) rJ (eqA ad) 0 0 0 0 ad 9 [(0, .ref 76), (1, .int a1), (2, .long a2), (4, .int a4)] [] τ (Cn_chestBehind_L9_r n τ a1 a2 a4)
  induction n with
  | zero => intro τ a1 a2 a4; exact at_none
  | succ n hk_9 =>
    intro τ a1 a2 a4
    unfold Cn_chestBehind_L9_r
    refine at_iload (j := 3) hC rfl dX2_chestBehind_9 ?_
    refine at_iload_n (j := 1) hC rfl rfl dX2_chestBehind_11 ?_
    refine at_icmp_gt (tgt := 65) hC dX2_chestBehind_12 rfl (fun _ => ?_) (fun _ => ?_)
    · refine at_lload_n (j := 2) hC rfl rfl dX2_chestBehind_65 ?_
      exact at_lret (F := eqA ad) (ra := rJ) hC dX2_chestBehind_66 rfl (Nat.le_refl 0) (Nat.le_refl 0) rfl
    · refine at_lload_n (j := 2) hC rfl rfl dX2_chestBehind_15 ?_
      refine at_aload_n (j := 0) hC rfl rfl dX2_chestBehind_16 ?_
      refine at_iload (j := 3) hC rfl dX2_chestBehind_17 ?_
      refine at_callVJ hC hR lk_X2_204 (c_Cn_apartFromMembers τ a4) dX2_chestBehind_19 recX2 rfl rfl ⟨by decide, by decide⟩ (Nat.le_of_ble_eq_true rfl) ⟨Nat.le_refl 0, Nat.le_refl 0⟩ (fun r1 r1s _ => ?_)
      refine at_ladd hC dX2_chestBehind_22 ?_
      refine at_lstore_n (lv' := [(2, .long (a2 + r1)), (0, .ref 76), (1, .int a1), (4, .int a4)]) hC rfl dX2_chestBehind_23 (by decide) rfl ?_
      refine at_iconst hC ic_0 dX2_chestBehind_24 ?_
      refine at_istore (lv' := [(5, .int 0), (2, .long (a2 + r1)), (0, .ref 76), (1, .int a1), (4, .int a4)]) hC dX2_chestBehind_25 (by decide) rfl ?_
      refine at_drop (lv' := [(0, .ref 76), (1, .int a1), (2, .long (a2 + r1)), (4, .int a4), (5, .int 0)]) [2, 3, 1, 4, 0] rfl ?_
      exact t_Cn_chestBehind_L27 hC hR (Cn_chestBehind_L9_r n) hk_9 100000 r1s a1 (a2 + r1) a4 0
set_option maxRecDepth 100000 in
theorem c_Cn_chestBehind (τ : XS) (p0 : Int32) : Ct z (wX z σ) rJ eqA yX2_chestBehind cX2_chestBehind 6 (some .long) 10 0 0 [.ref 76, .int p0] τ (Cn_chestBehind τ p0) := by
  refine Ct.of (by decide) (Nat.le_of_ble_eq_true rfl) (fun ad x hC hR _ => ?_)
  show AT z x 6 (wX z σ) rJ (eqA ad) 0 0 0 0 ad 0 [(0, .ref 76), (1, .int p0)] [] τ (Cn_chestBehind τ p0)
  unfold Cn_chestBehind
  refine at_aload_n (j := 0) hC rfl rfl dX2_chestBehind_0 ?_
  refine gf_X2_201 hC dX2_chestBehind_1 ?_
  refine at_i2l hC dX2_chestBehind_4 ?_
  refine at_lstore_n (lv' := [(2, .long ((τ.1 205).toInt64)), (0, .ref 76), (1, .int p0)]) hC rfl dX2_chestBehind_5 (by decide) rfl ?_
  refine at_iconst hC ic_0 dX2_chestBehind_6 ?_
  refine at_istore (lv' := [(4, .int 0), (2, .long ((τ.1 205).toInt64)), (0, .ref 76), (1, .int p0)]) hC dX2_chestBehind_7 (by decide) rfl ?_
  refine at_drop (lv' := [(0, .ref 76), (1, .int p0), (2, .long ((τ.1 205).toInt64)), (4, .int 0)]) [2, 3, 1, 0] rfl ?_
  exact t_Cn_chestBehind_L9 hC hR 100000 τ p0 ((τ.1 205).toInt64) 0
theorem dX6_afterYear_0 : decode cX6_afterYear 0 = .ok (.iload_n 2, 1) := by decide +kernel
theorem dX6_afterYear_1 : decode cX6_afterYear 1 = .ok (.bipush 100, 2) := by decide +kernel
theorem dX6_afterYear_3 : decode cX6_afterYear 3 = .ok (.if_icmp .ge 23, 3) := by decide +kernel
theorem dX6_afterYear_6 : decode cX6_afterYear 6 = .ok (.iload_n 1, 1) := by decide +kernel
theorem dX6_afterYear_7 : decode cX6_afterYear 7 = .ok (.iload_n 1, 1) := by decide +kernel
theorem dX6_afterYear_8 : decode cX6_afterYear 8 = .ok (.i2l, 1) := by decide +kernel
theorem dX6_afterYear_9 : decode cX6_afterYear 9 = .ok (.aload_n 0, 1) := by decide +kernel
theorem dX6_afterYear_10 : decode cX6_afterYear 10 = .ok (.getfield 9, 3) := by decide +kernel
theorem dX6_afterYear_13 : decode cX6_afterYear 13 = .ok (.iload_n 2, 1) := by decide +kernel
theorem dX6_afterYear_14 : decode cX6_afterYear 14 = .ok (.iaload, 1) := by decide +kernel
theorem dX6_afterYear_15 : decode cX6_afterYear 15 = .ok (.i2l, 1) := by decide +kernel
theorem dX6_afterYear_16 : decode cX6_afterYear 16 = .ok (.lmul, 1) := by decide +kernel
theorem dX6_afterYear_17 : decode cX6_afterYear 17 = .ok (.ldc2_w 19, 3) := by decide +kernel
theorem dX6_afterYear_20 : decode cX6_afterYear 20 = .ok (.ldiv, 1) := by decide +kernel
theorem dX6_afterYear_21 : decode cX6_afterYear 21 = .ok (.l2i, 1) := by decide +kernel
theorem dX6_afterYear_22 : decode cX6_afterYear 22 = .ok (.isub, 1) := by decide +kernel
theorem dX6_afterYear_23 : decode cX6_afterYear 23 = .ok (.goto 4, 3) := by decide +kernel
theorem dX6_afterYear_26 : decode cX6_afterYear 26 = .ok (.iconst 0, 1) := by decide +kernel
theorem dX6_afterYear_27 : decode cX6_afterYear 27 = .ok (.ireturn, 1) := by decide +kernel
set_option maxRecDepth 100000 in
theorem c_Tb_afterYear (τ : XS) (p0 : Int32) (p1 : Int32) : Ct z (wX z σ) rI eqA yX6_afterYear cX6_afterYear 3 (some .int) 1 0 0 [.ref 68, .int p0, .int p1] τ ((Tb_afterYear τ p0 p1).map fun r => (r, τ)) := by
  refine Ct.of (by decide) (Nat.le_of_ble_eq_true rfl) (fun ad x hC hR _ => ?_)
  show AT z x 3 (wX z σ) rI (eqA ad) 0 0 0 0 ad 0 [(0, .ref 68), (1, .int p0), (2, .int p1)] [] τ ((Tb_afterYear τ p0 p1).map fun r => (r, τ))
  unfold Tb_afterYear
  refine at_iload_n (j := 2) hC rfl rfl dX6_afterYear_0 ?_
  refine at_bipush hC bi_100 dX6_afterYear_1 ?_
  refine ap_icmp_ge (tgt := 26) hC dX6_afterYear_3 rfl (fun _ => ?_) (fun _ => ?_)
  · refine at_iconst hC ic_0 dX6_afterYear_26 ?_
    exact at_iret (F := eqA ad) (ra := rI) hC dX6_afterYear_27 rfl (Nat.le_refl 0) (Nat.le_refl 0) rfl
  · refine at_iload_n (j := 1) hC rfl rfl dX6_afterYear_6 ?_
    refine at_iload_n (j := 1) hC rfl rfl dX6_afterYear_7 ?_
    refine at_i2l hC dX6_afterYear_8 ?_
    refine at_aload_n (j := 0) hC rfl rfl dX6_afterYear_9 ?_
    refine gf_X6_9 hC dX6_afterYear_10 ?_
    refine at_iload_n (j := 2) hC rfl rfl dX6_afterYear_13 ?_
    refine ap_iald hC 69 dX6_afterYear_14 cl_69 (fun v1 => ?_)
    refine at_i2l hC dX6_afterYear_15 ?_
    refine at_lmul hC dX6_afterYear_16 ?_
    refine at_ldc2 hC kl_X6_19 dX6_afterYear_17 ?_
    refine at_ldiv hC (by decide) dX6_afterYear_20 ?_
    refine at_l2i hC dX6_afterYear_21 ?_
    refine at_isub hC dX6_afterYear_22 ?_
    refine at_goto (tgt := 27) hC dX6_afterYear_23 rfl ?_
    exact at_iret (F := eqA ad) (ra := rI) hC dX6_afterYear_27 rfl (Nat.le_refl 0) (Nat.le_refl 0) rfl
theorem dX6_worthOf_0 : decode cX6_worthOf 0 = .ok (.ldc 21, 2) := by decide +kernel
theorem dX6_worthOf_2 : decode cX6_worthOf 2 = .ok (.istore_n 3, 1) := by decide +kernel
theorem dX6_worthOf_3 : decode cX6_worthOf 3 = .ok (.ldc2_w 26, 3) := by decide +kernel
theorem dX6_worthOf_6 : decode cX6_worthOf 6 = .ok (.lstore 4, 2) := by decide +kernel
theorem dX6_worthOf_8 : decode cX6_worthOf 8 = .ok (.lconst 0, 1) := by decide +kernel
theorem dX6_worthOf_9 : decode cX6_worthOf 9 = .ok (.lstore 6, 2) := by decide +kernel
theorem dX6_worthOf_11 : decode cX6_worthOf 11 = .ok (.iload_n 2, 1) := by decide +kernel
theorem dX6_worthOf_12 : decode cX6_worthOf 12 = .ok (.istore 8, 2) := by decide +kernel
theorem dX6_worthOf_14 : decode cX6_worthOf 14 = .ok (.iload 8, 2) := by decide +kernel
theorem dX6_worthOf_16 : decode cX6_worthOf 16 = .ok (.bipush 100, 2) := by decide +kernel
theorem dX6_worthOf_18 : decode cX6_worthOf 18 = .ok (.if_icmp .ge 47, 3) := by decide +kernel
theorem dX6_worthOf_21 : decode cX6_worthOf 21 = .ok (.aload_n 0, 1) := by decide +kernel
theorem dX6_worthOf_22 : decode cX6_worthOf 22 = .ok (.iload_n 3, 1) := by decide +kernel
theorem dX6_worthOf_23 : decode cX6_worthOf 23 = .ok (.iload 8, 2) := by decide +kernel
theorem dX6_worthOf_25 : decode cX6_worthOf 25 = .ok (.invokevirtual 22, 3) := by decide +kernel
theorem dX6_worthOf_28 : decode cX6_worthOf 28 = .ok (.istore_n 3, 1) := by decide +kernel
theorem dX6_worthOf_29 : decode cX6_worthOf 29 = .ok (.lload 4, 2) := by decide +kernel
theorem dX6_worthOf_31 : decode cX6_worthOf 31 = .ok (.ldc2_w 28, 3) := by decide +kernel
theorem dX6_worthOf_34 : decode cX6_worthOf 34 = .ok (.lmul, 1) := by decide +kernel
theorem dX6_worthOf_35 : decode cX6_worthOf 35 = .ok (.bipush 100, 2) := by decide +kernel
theorem dX6_worthOf_37 : decode cX6_worthOf 37 = .ok (.aload_n 0, 1) := by decide +kernel
theorem dX6_worthOf_38 : decode cX6_worthOf 38 = .ok (.getfield 15, 3) := by decide +kernel
theorem dX6_worthOf_41 : decode cX6_worthOf 41 = .ok (.iadd, 1) := by decide +kernel
theorem dX6_worthOf_42 : decode cX6_worthOf 42 = .ok (.i2l, 1) := by decide +kernel
theorem dX6_worthOf_43 : decode cX6_worthOf 43 = .ok (.ldiv, 1) := by decide +kernel
theorem dX6_worthOf_44 : decode cX6_worthOf 44 = .ok (.lstore 4, 2) := by decide +kernel
theorem dX6_worthOf_46 : decode cX6_worthOf 46 = .ok (.lload 6, 2) := by decide +kernel
theorem dX6_worthOf_48 : decode cX6_worthOf 48 = .ok (.iload_n 1, 1) := by decide +kernel
theorem dX6_worthOf_49 : decode cX6_worthOf 49 = .ok (.i2l, 1) := by decide +kernel
theorem dX6_worthOf_50 : decode cX6_worthOf 50 = .ok (.iload_n 3, 1) := by decide +kernel
theorem dX6_worthOf_51 : decode cX6_worthOf 51 = .ok (.i2l, 1) := by decide +kernel
theorem dX6_worthOf_52 : decode cX6_worthOf 52 = .ok (.lload 4, 2) := by decide +kernel
theorem dX6_worthOf_54 : decode cX6_worthOf 54 = .ok (.lmul, 1) := by decide +kernel
theorem dX6_worthOf_55 : decode cX6_worthOf 55 = .ok (.lmul, 1) := by decide +kernel
theorem dX6_worthOf_56 : decode cX6_worthOf 56 = .ok (.ladd, 1) := by decide +kernel
theorem dX6_worthOf_57 : decode cX6_worthOf 57 = .ok (.lstore 6, 2) := by decide +kernel
theorem dX6_worthOf_59 : decode cX6_worthOf 59 = .ok (.iinc 8 1, 3) := by decide +kernel
theorem dX6_worthOf_62 : decode cX6_worthOf 62 = .ok (.goto (-48), 3) := by decide +kernel
theorem dX6_worthOf_65 : decode cX6_worthOf 65 = .ok (.lload 6, 2) := by decide +kernel
theorem dX6_worthOf_67 : decode cX6_worthOf 67 = .ok (.ldc2_w 30, 3) := by decide +kernel
theorem dX6_worthOf_70 : decode cX6_worthOf 70 = .ok (.ldiv, 1) := by decide +kernel
theorem dX6_worthOf_71 : decode cX6_worthOf 71 = .ok (.lreturn, 1) := by decide +kernel
set_option maxRecDepth 100000 in
theorem t_Tb_worthOf_L14 (hC : CX z ad x cX6_worthOf RX6 9 (some .long)) (hR : x.2.2.1 = rmk 2 0 0) (τ : XS) (n : Nat) (a1 : Int32) (a3 : Int32) (a4 : Int64) (a6 : Int64) (a8 : Int32) : AT z x 9 (wX z σ) rJ (eqA ad) 0 0 0 0 ad 14 [(0, .ref 68), (1, .int a1), (3, .int a3), (4, .long a4), (6, .long a6), (8, .int a8)] [] τ ((Tb_worthOf_L14 n τ a1 a3 a4 a6 a8).map fun r => (r, τ)) := by
  revert a1 a3 a4 a6 a8
  show ∀ (a1 : Int32) (a3 : Int32) (a4 : Int64) (a6 : Int64) (a8 : Int32), AT z x 9 (wX z σ) rJ (eqA ad) 0 0 0 0 ad 14 [(0, .ref 68), (1, .int a1), (3, .int a3), (4, .long a4), (6, .long a6), (8, .int a8)] [] τ ((Tb_worthOf_L14_r τ n a1 a3 a4 a6 a8).map fun r => (r, τ))
  induction n with
  | zero => intro a1 a3 a4 a6 a8; exact ap_none
  | succ n hk_14 =>
    intro a1 a3 a4 a6 a8
    unfold Tb_worthOf_L14_r
    refine at_iload (j := 5) hC rfl dX6_worthOf_14 ?_
    refine at_bipush hC bi_100 dX6_worthOf_16 ?_
    refine ap_icmp_ge (tgt := 65) hC dX6_worthOf_18 rfl (fun _ => ?_) (fun _ => ?_)
    · refine at_lload (j := 4) hC rfl dX6_worthOf_65 ?_
      refine at_ldc2 hC kl_X6_30 dX6_worthOf_67 ?_
      refine at_ldiv hC (by decide) dX6_worthOf_70 ?_
      exact at_lret (F := eqA ad) (ra := rJ) hC dX6_worthOf_71 rfl (Nat.le_refl 0) (Nat.le_refl 0) rfl
    · refine at_aload_n (j := 0) hC rfl rfl dX6_worthOf_21 ?_
      refine at_iload_n (j := 2) hC rfl rfl dX6_worthOf_22 ?_
      refine at_iload (j := 5) hC rfl dX6_worthOf_23 ?_
      refine ap_callVI hC hR lk_X6_22 (c_Tb_afterYear τ a3 a8) dX6_worthOf_25 recX6 rfl rfl ⟨by decide, by decide⟩ (Nat.le_of_ble_eq_true rfl) ⟨Nat.le_refl 0, Nat.le_refl 0⟩ (fun r1 _ => ?_)
      refine at_istore_n (lv' := [(3, .int r1), (0, .ref 68), (1, .int a1), (4, .long a4), (6, .long a6), (8, .int a8)]) hC rfl dX6_worthOf_28 (by decide) rfl ?_
      refine at_lload (j := 3) hC rfl dX6_worthOf_29 ?_
      refine at_ldc2 hC kl_X6_28 dX6_worthOf_31 ?_
      refine at_lmul hC dX6_worthOf_34 ?_
      refine at_bipush hC bi_100 dX6_worthOf_35 ?_
      refine at_aload_n (j := 1) hC rfl rfl dX6_worthOf_37 ?_
      refine gf_X6_15 hC dX6_worthOf_38 ?_
      refine at_iadd hC dX6_worthOf_41 ?_
      refine at_i2l hC dX6_worthOf_42 ?_
      refine ap_nzl (fun hne => ?_)
      refine at_ldiv hC hne dX6_worthOf_43 ?_
      refine at_lstore (lv' := [(4, .long ((a4 * 100) / ((100 + (τ.1 601)).toInt64))), (3, .int r1), (0, .ref 68), (1, .int a1), (6, .long a6), (8, .int a8)]) hC dX6_worthOf_44 (by decide) rfl ?_
      refine at_lload (j := 4) hC rfl dX6_worthOf_46 ?_
      refine at_iload_n (j := 3) hC rfl rfl dX6_worthOf_48 ?_
      refine at_i2l hC dX6_worthOf_49 ?_
      refine at_iload_n (j := 1) hC rfl rfl dX6_worthOf_50 ?_
      refine at_i2l hC dX6_worthOf_51 ?_
      refine at_lload (j := 0) hC rfl dX6_worthOf_52 ?_
      refine at_lmul hC dX6_worthOf_54 ?_
      refine at_lmul hC dX6_worthOf_55 ?_
      refine at_ladd hC dX6_worthOf_56 ?_
      refine at_lstore (lv' := [(6, .long (a6 + (a1.toInt64 * (r1.toInt64 * ((a4 * 100) / ((100 + (τ.1 601)).toInt64)))))), (4, .long ((a4 * 100) / ((100 + (τ.1 601)).toInt64))), (3, .int r1), (0, .ref 68), (1, .int a1), (8, .int a8)]) hC dX6_worthOf_57 (by decide) rfl ?_
      refine at_iinc (j := 5) (v := a8 + 1) (lv' := [(8, .int (a8 + 1)), (6, .long (a6 + (a1.toInt64 * (r1.toInt64 * ((a4 * 100) / ((100 + (τ.1 601)).toInt64)))))), (4, .long ((a4 * 100) / ((100 + (τ.1 601)).toInt64))), (3, .int r1), (0, .ref 68), (1, .int a1)]) hC dX6_worthOf_59 rfl rfl (by decide) rfl ?_
      refine at_goto (tgt := 14) hC dX6_worthOf_62 rfl ?_
      refine at_drop (lv' := [(0, .ref 68), (1, .int a1), (3, .int r1), (4, .long ((a4 * 100) / ((100 + (τ.1 601)).toInt64))), (6, .long (a6 + (a1.toInt64 * (r1.toInt64 * ((a4 * 100) / ((100 + (τ.1 601)).toInt64)))))), (8, .int (a8 + 1))]) [4, 5, 3, 2, 1, 0] rfl ?_
      exact hk_14 a1 r1 ((a4 * 100) / ((100 + (τ.1 601)).toInt64)) (a6 + (a1.toInt64 * (r1.toInt64 * ((a4 * 100) / ((100 + (τ.1 601)).toInt64))))) (a8 + 1)
set_option maxRecDepth 100000 in
theorem c_Tb_worthOf (τ : XS) (p0 : Int32) (p1 : Int32) : Ct z (wX z σ) rJ eqA yX6_worthOf cX6_worthOf 9 (some .long) 2 0 0 [.ref 68, .int p0, .int p1] τ ((Tb_worthOf τ p0 p1).map fun r => (r, τ)) := by
  refine Ct.of (by decide) (Nat.le_of_ble_eq_true rfl) (fun ad x hC hR _ => ?_)
  show AT z x 9 (wX z σ) rJ (eqA ad) 0 0 0 0 ad 0 [(0, .ref 68), (1, .int p0), (2, .int p1)] [] τ ((Tb_worthOf τ p0 p1).map fun r => (r, τ))
  unfold Tb_worthOf
  refine at_ldc hC kc_X6_21 dX6_worthOf_0 ?_
  refine at_istore_n (lv' := [(3, .int 1000000), (0, .ref 68), (1, .int p0), (2, .int p1)]) hC rfl dX6_worthOf_2 (by decide) rfl ?_
  refine at_ldc2 hC kl_X6_26 dX6_worthOf_3 ?_
  refine at_lstore (lv' := [(4, .long 1000000), (3, .int 1000000), (0, .ref 68), (1, .int p0), (2, .int p1)]) hC dX6_worthOf_6 (by decide) rfl ?_
  refine at_lconst hC lc_0 dX6_worthOf_8 ?_
  refine at_lstore (lv' := [(6, .long 0), (4, .long 1000000), (3, .int 1000000), (0, .ref 68), (1, .int p0), (2, .int p1)]) hC dX6_worthOf_9 (by decide) rfl ?_
  refine at_iload_n (j := 5) hC rfl rfl dX6_worthOf_11 ?_
  refine at_istore (lv' := [(8, .int p1), (6, .long 0), (4, .long 1000000), (3, .int 1000000), (0, .ref 68), (1, .int p0), (2, .int p1)]) hC dX6_worthOf_12 (by decide) rfl ?_
  refine at_drop (lv' := [(0, .ref 68), (1, .int p0), (3, .int 1000000), (4, .long 1000000), (6, .long 0), (8, .int p1)]) [4, 5, 3, 2, 1, 0] rfl ?_
  exact t_Tb_worthOf_L14 hC hR τ 100000 p0 1000000 1000000 0 p1
theorem dX4_wedTo_0 : decode cX4_wedTo 0 = .ok (.aload_n 0, 1) := by decide +kernel
theorem dX4_wedTo_1 : decode cX4_wedTo 1 = .ok (.iload_n 1, 1) := by decide +kernel
theorem dX4_wedTo_2 : decode cX4_wedTo 2 = .ok (.iload_n 2, 1) := by decide +kernel
theorem dX4_wedTo_3 : decode cX4_wedTo 3 = .ok (.iconst 2, 1) := by decide +kernel
theorem dX4_wedTo_4 : decode cX4_wedTo 4 = .ok (.invokevirtual 69, 3) := by decide +kernel
theorem dX4_wedTo_7 : decode cX4_wedTo 7 = .ok (.istore_n 3, 1) := by decide +kernel
theorem dX4_wedTo_8 : decode cX4_wedTo 8 = .ok (.iload_n 3, 1) := by decide +kernel
theorem dX4_wedTo_9 : decode cX4_wedTo 9 = .ok (.ifCond .ge 5, 3) := by decide +kernel
theorem dX4_wedTo_12 : decode cX4_wedTo 12 = .ok (.iconst (-1), 1) := by decide +kernel
theorem dX4_wedTo_13 : decode cX4_wedTo 13 = .ok (.ireturn, 1) := by decide +kernel
theorem dX4_wedTo_14 : decode cX4_wedTo 14 = .ok (.aload_n 0, 1) := by decide +kernel
theorem dX4_wedTo_15 : decode cX4_wedTo 15 = .ok (.getfield 24, 3) := by decide +kernel
theorem dX4_wedTo_18 : decode cX4_wedTo 18 = .ok (.getfield 47, 3) := by decide +kernel
theorem dX4_wedTo_21 : decode cX4_wedTo 21 = .ok (.iload_n 3, 1) := by decide +kernel
theorem dX4_wedTo_22 : decode cX4_wedTo 22 = .ok (.iaload, 1) := by decide +kernel
theorem dX4_wedTo_23 : decode cX4_wedTo 23 = .ok (.iload_n 1, 1) := by decide +kernel
theorem dX4_wedTo_24 : decode cX4_wedTo 24 = .ok (.if_icmp .ne 15, 3) := by decide +kernel
theorem dX4_wedTo_27 : decode cX4_wedTo 27 = .ok (.aload_n 0, 1) := by decide +kernel
theorem dX4_wedTo_28 : decode cX4_wedTo 28 = .ok (.getfield 24, 3) := by decide +kernel
theorem dX4_wedTo_31 : decode cX4_wedTo 31 = .ok (.getfield 53, 3) := by decide +kernel
theorem dX4_wedTo_34 : decode cX4_wedTo 34 = .ok (.iload_n 3, 1) := by decide +kernel
theorem dX4_wedTo_35 : decode cX4_wedTo 35 = .ok (.iaload, 1) := by decide +kernel
theorem dX4_wedTo_36 : decode cX4_wedTo 36 = .ok (.goto 12, 3) := by decide +kernel
theorem dX4_wedTo_39 : decode cX4_wedTo 39 = .ok (.aload_n 0, 1) := by decide +kernel
theorem dX4_wedTo_40 : decode cX4_wedTo 40 = .ok (.getfield 24, 3) := by decide +kernel
theorem dX4_wedTo_43 : decode cX4_wedTo 43 = .ok (.getfield 47, 3) := by decide +kernel
theorem dX4_wedTo_46 : decode cX4_wedTo 46 = .ok (.iload_n 3, 1) := by decide +kernel
theorem dX4_wedTo_47 : decode cX4_wedTo 47 = .ok (.iaload, 1) := by decide +kernel
theorem dX4_wedTo_48 : decode cX4_wedTo 48 = .ok (.istore 4, 2) := by decide +kernel
theorem dX4_wedTo_50 : decode cX4_wedTo 50 = .ok (.aload_n 0, 1) := by decide +kernel
theorem dX4_wedTo_51 : decode cX4_wedTo 51 = .ok (.iload_n 1, 1) := by decide +kernel
theorem dX4_wedTo_52 : decode cX4_wedTo 52 = .ok (.iload_n 2, 1) := by decide +kernel
theorem dX4_wedTo_53 : decode cX4_wedTo 53 = .ok (.invokevirtual 73, 3) := by decide +kernel
theorem dX4_wedTo_56 : decode cX4_wedTo 56 = .ok (.ifCond .eq 18, 3) := by decide +kernel
theorem dX4_wedTo_59 : decode cX4_wedTo 59 = .ok (.aload_n 0, 1) := by decide +kernel
theorem dX4_wedTo_60 : decode cX4_wedTo 60 = .ok (.iload 4, 2) := by decide +kernel
theorem dX4_wedTo_62 : decode cX4_wedTo 62 = .ok (.iload_n 2, 1) := by decide +kernel
theorem dX4_wedTo_63 : decode cX4_wedTo 63 = .ok (.invokevirtual 73, 3) := by decide +kernel
theorem dX4_wedTo_66 : decode cX4_wedTo 66 = .ok (.ifCond .eq 8, 3) := by decide +kernel
theorem dX4_wedTo_69 : decode cX4_wedTo 69 = .ok (.iload 4, 2) := by decide +kernel
theorem dX4_wedTo_71 : decode cX4_wedTo 71 = .ok (.goto 4, 3) := by decide +kernel
theorem dX4_wedTo_74 : decode cX4_wedTo 74 = .ok (.iconst (-1), 1) := by decide +kernel
theorem dX4_wedTo_75 : decode cX4_wedTo 75 = .ok (.ireturn, 1) := by decide +kernel
set_option maxRecDepth 100000 in
theorem t_Lv_wedTo_J48 (hC : CX z ad x cX4_wedTo RX4 5 (some .int)) (hR : x.2.2.1 = rmk 2 0 0) (τ : XS) (a1 : Int32) (a2 : Int32) (s0 : Int32) : AT z x 5 (wX z σ) rI (eqA ad) 0 0 0 0 ad 48 [(0, .ref 49), (1, .int a1), (2, .int a2)] [.int s0] τ ((Lv_wedTo_J48 τ a1 a2 s0).map fun r => (r, τ)) := by
  unfold Lv_wedTo_J48
  refine at_istore (lv' := [(4, .int s0), (0, .ref 49), (1, .int a1), (2, .int a2)]) hC dX4_wedTo_48 (by decide) rfl ?_
  refine at_aload_n (j := 1) hC rfl rfl dX4_wedTo_50 ?_
  refine at_iload_n (j := 2) hC rfl rfl dX4_wedTo_51 ?_
  refine at_iload_n (j := 3) hC rfl rfl dX4_wedTo_52 ?_
  refine ap_callVI hC hR lk_X4_73 (c_Lv_livesOn τ a1 a2) dX4_wedTo_53 recX4 rfl rfl ⟨by decide, by decide⟩ (Nat.le_of_ble_eq_true rfl) ⟨Nat.le_refl 0, Nat.le_refl 0⟩ (fun r4 _ => ?_)
  refine ap_if_eq (tgt := 74) hC dX4_wedTo_56 rfl (fun _ => ?_) (fun _ => ?_)
  · refine at_iconst hC ic_m1 dX4_wedTo_74 ?_
    exact at_iret (F := eqA ad) (ra := rI) hC dX4_wedTo_75 rfl (Nat.le_refl 0) (Nat.le_refl 0) rfl
  · refine at_aload_n (j := 1) hC rfl rfl dX4_wedTo_59 ?_
    refine at_iload (j := 0) hC rfl dX4_wedTo_60 ?_
    refine at_iload_n (j := 3) hC rfl rfl dX4_wedTo_62 ?_
    refine ap_callVI hC hR lk_X4_73 (c_Lv_livesOn τ s0 a2) dX4_wedTo_63 recX4 rfl rfl ⟨by decide, by decide⟩ (Nat.le_of_ble_eq_true rfl) ⟨Nat.le_refl 0, Nat.le_refl 0⟩ (fun r5 _ => ?_)
    refine ap_if_eq (tgt := 74) hC dX4_wedTo_66 rfl (fun _ => ?_) (fun _ => ?_)
    · refine at_iconst hC ic_m1 dX4_wedTo_74 ?_
      exact at_iret (F := eqA ad) (ra := rI) hC dX4_wedTo_75 rfl (Nat.le_refl 0) (Nat.le_refl 0) rfl
    · refine at_iload (j := 0) hC rfl dX4_wedTo_69 ?_
      refine at_goto (tgt := 75) hC dX4_wedTo_71 rfl ?_
      exact at_iret (F := eqA ad) (ra := rI) hC dX4_wedTo_75 rfl (Nat.le_refl 0) (Nat.le_refl 0) rfl
set_option maxRecDepth 100000 in
theorem c_Lv_wedTo (τ : XS) (p0 : Int32) (p1 : Int32) : Ct z (wX z σ) rI eqA yX4_wedTo cX4_wedTo 5 (some .int) 2 0 0 [.ref 49, .int p0, .int p1] τ ((Lv_wedTo τ p0 p1).map fun r => (r, τ)) := by
  refine Ct.of (by decide) (Nat.le_of_ble_eq_true rfl) (fun ad x hC hR _ => ?_)
  show AT z x 5 (wX z σ) rI (eqA ad) 0 0 0 0 ad 0 [(0, .ref 49), (1, .int p0), (2, .int p1)] [] τ ((Lv_wedTo τ p0 p1).map fun r => (r, τ))
  unfold Lv_wedTo
  refine at_aload_n (j := 0) hC rfl rfl dX4_wedTo_0 ?_
  refine at_iload_n (j := 1) hC rfl rfl dX4_wedTo_1 ?_
  refine at_iload_n (j := 2) hC rfl rfl dX4_wedTo_2 ?_
  refine at_iconst hC ic_2 dX4_wedTo_3 ?_
  refine ap_callVI hC hR lk_X4_69 (c_Lv_lastOf τ p0 p1 2) dX4_wedTo_4 recX4 rfl rfl ⟨by decide, by decide⟩ (Nat.le_of_ble_eq_true rfl) ⟨Nat.le_refl 0, Nat.le_refl 0⟩ (fun r1 _ => ?_)
  refine at_istore_n (lv' := [(3, .int r1), (0, .ref 49), (1, .int p0), (2, .int p1)]) hC rfl dX4_wedTo_7 (by decide) rfl ?_
  refine at_iload_n (j := 0) hC rfl rfl dX4_wedTo_8 ?_
  refine ap_if_ge (tgt := 14) hC dX4_wedTo_9 rfl (fun _ => ?_) (fun _ => ?_)
  · refine at_aload_n (j := 1) hC rfl rfl dX4_wedTo_14 ?_
    refine gf_X4_24 hC dX4_wedTo_15 ?_
    refine gf_X4_47 hC dX4_wedTo_18 ?_
    refine at_iload_n (j := 0) hC rfl rfl dX4_wedTo_21 ?_
    refine ap_iald hC 43 dX4_wedTo_22 cl_43 (fun v2 => ?_)
    refine at_iload_n (j := 2) hC rfl rfl dX4_wedTo_23 ?_
    refine ap_icmp_ne (tgt := 39) hC dX4_wedTo_24 rfl (fun _ => ?_) (fun _ => ?_)
    · refine at_aload_n (j := 1) hC rfl rfl dX4_wedTo_39 ?_
      refine gf_X4_24 hC dX4_wedTo_40 ?_
      refine gf_X4_47 hC dX4_wedTo_43 ?_
      refine at_iload_n (j := 0) hC rfl rfl dX4_wedTo_46 ?_
      refine ap_iald hC 43 dX4_wedTo_47 cl_43 (fun v3 => ?_)
      refine at_drop (lv' := [(0, .ref 49), (1, .int p0), (2, .int p1)]) [1, 2, 3] rfl ?_
      exact t_Lv_wedTo_J48 hC hR τ p0 p1 v3
    · refine at_aload_n (j := 1) hC rfl rfl dX4_wedTo_27 ?_
      refine gf_X4_24 hC dX4_wedTo_28 ?_
      refine gf_X4_53 hC dX4_wedTo_31 ?_
      refine at_iload_n (j := 0) hC rfl rfl dX4_wedTo_34 ?_
      refine ap_iald hC 44 dX4_wedTo_35 cl_44 (fun v6 => ?_)
      refine at_goto (tgt := 48) hC dX4_wedTo_36 rfl ?_
      refine at_drop (lv' := [(0, .ref 49), (1, .int p0), (2, .int p1)]) [1, 2, 3] rfl ?_
      exact t_Lv_wedTo_J48 hC hR τ p0 p1 v6
  · refine at_iconst hC ic_m1 dX4_wedTo_12 ?_
    exact at_iret (F := eqA ad) (ra := rI) hC dX4_wedTo_13 rfl (Nat.le_refl 0) (Nat.le_refl 0) rfl
theorem dX2_promises_0 : decode cX2_promises 0 = .ok (.lconst 0, 1) := by decide +kernel
theorem dX2_promises_1 : decode cX2_promises 1 = .ok (.lstore_n 3, 1) := by decide +kernel
theorem dX2_promises_2 : decode cX2_promises 2 = .ok (.iconst 0, 1) := by decide +kernel
theorem dX2_promises_3 : decode cX2_promises 3 = .ok (.istore 5, 2) := by decide +kernel
theorem dX2_promises_5 : decode cX2_promises 5 = .ok (.iload 5, 2) := by decide +kernel
theorem dX2_promises_7 : decode cX2_promises 7 = .ok (.aload_n 0, 1) := by decide +kernel
theorem dX2_promises_8 : decode cX2_promises 8 = .ok (.getfield 15, 3) := by decide +kernel
theorem dX2_promises_11 : decode cX2_promises 11 = .ok (.getfield 54, 3) := by decide +kernel
theorem dX2_promises_14 : decode cX2_promises 14 = .ok (.if_icmp .ge 161, 3) := by decide +kernel
theorem dX2_promises_17 : decode cX2_promises 17 = .ok (.aload_n 0, 1) := by decide +kernel
theorem dX2_promises_18 : decode cX2_promises 18 = .ok (.getfield 19, 3) := by decide +kernel
theorem dX2_promises_21 : decode cX2_promises 21 = .ok (.iload 5, 2) := by decide +kernel
theorem dX2_promises_23 : decode cX2_promises 23 = .ok (.iload_n 2, 1) := by decide +kernel
theorem dX2_promises_24 : decode cX2_promises 24 = .ok (.invokevirtual 86, 3) := by decide +kernel
theorem dX2_promises_27 : decode cX2_promises 27 = .ok (.ifCond .ne 6, 3) := by decide +kernel
theorem dX2_promises_30 : decode cX2_promises 30 = .ok (.goto 139, 3) := by decide +kernel
theorem dX2_promises_33 : decode cX2_promises 33 = .ok (.aload_n 0, 1) := by decide +kernel
theorem dX2_promises_34 : decode cX2_promises 34 = .ok (.getfield 15, 3) := by decide +kernel
theorem dX2_promises_37 : decode cX2_promises 37 = .ok (.iload 5, 2) := by decide +kernel
theorem dX2_promises_39 : decode cX2_promises 39 = .ok (.iload_n 2, 1) := by decide +kernel
theorem dX2_promises_40 : decode cX2_promises 40 = .ok (.invokevirtual 102, 3) := by decide +kernel
theorem dX2_promises_43 : decode cX2_promises 43 = .ok (.istore 6, 2) := by decide +kernel
theorem dX2_promises_45 : decode cX2_promises 45 = .ok (.aload_n 0, 1) := by decide +kernel
theorem dX2_promises_46 : decode cX2_promises 46 = .ok (.getfield 19, 3) := by decide +kernel
theorem dX2_promises_49 : decode cX2_promises 49 = .ok (.iload 5, 2) := by decide +kernel
theorem dX2_promises_51 : decode cX2_promises 51 = .ok (.iload_n 2, 1) := by decide +kernel
theorem dX2_promises_52 : decode cX2_promises 52 = .ok (.invokevirtual 63, 3) := by decide +kernel
theorem dX2_promises_55 : decode cX2_promises 55 = .ok (.iconst 1, 1) := by decide +kernel
theorem dX2_promises_56 : decode cX2_promises 56 = .ok (.if_icmp .ne 85, 3) := by decide +kernel
theorem dX2_promises_59 : decode cX2_promises 59 = .ok (.lload_n 3, 1) := by decide +kernel
theorem dX2_promises_60 : decode cX2_promises 60 = .ok (.aload_n 1, 1) := by decide +kernel
theorem dX2_promises_61 : decode cX2_promises 61 = .ok (.aload_n 0, 1) := by decide +kernel
theorem dX2_promises_62 : decode cX2_promises 62 = .ok (.iconst 0, 1) := by decide +kernel
theorem dX2_promises_63 : decode cX2_promises 63 = .ok (.iload 5, 2) := by decide +kernel
theorem dX2_promises_65 : decode cX2_promises 65 = .ok (.iload_n 2, 1) := by decide +kernel
theorem dX2_promises_66 : decode cX2_promises 66 = .ok (.invokevirtual 67, 3) := by decide +kernel
theorem dX2_promises_69 : decode cX2_promises 69 = .ok (.iload 6, 2) := by decide +kernel
theorem dX2_promises_71 : decode cX2_promises 71 = .ok (.invokevirtual 207, 3) := by decide +kernel
theorem dX2_promises_74 : decode cX2_promises 74 = .ok (.ladd, 1) := by decide +kernel
theorem dX2_promises_75 : decode cX2_promises 75 = .ok (.lstore_n 3, 1) := by decide +kernel
theorem dX2_promises_76 : decode cX2_promises 76 = .ok (.aload_n 0, 1) := by decide +kernel
theorem dX2_promises_77 : decode cX2_promises 77 = .ok (.getfield 19, 3) := by decide +kernel
theorem dX2_promises_80 : decode cX2_promises 80 = .ok (.iload 5, 2) := by decide +kernel
theorem dX2_promises_82 : decode cX2_promises 82 = .ok (.iload_n 2, 1) := by decide +kernel
theorem dX2_promises_83 : decode cX2_promises 83 = .ok (.invokevirtual 212, 3) := by decide +kernel
theorem dX2_promises_86 : decode cX2_promises 86 = .ok (.istore 7, 2) := by decide +kernel
theorem dX2_promises_88 : decode cX2_promises 88 = .ok (.iload 7, 2) := by decide +kernel
theorem dX2_promises_90 : decode cX2_promises 90 = .ok (.ifCond .ge 6, 3) := by decide +kernel
theorem dX2_promises_93 : decode cX2_promises 93 = .ok (.goto 76, 3) := by decide +kernel
theorem dX2_promises_96 : decode cX2_promises 96 = .ok (.aload_n 0, 1) := by decide +kernel
theorem dX2_promises_97 : decode cX2_promises 97 = .ok (.iconst 1, 1) := by decide +kernel
theorem dX2_promises_98 : decode cX2_promises 98 = .ok (.iload 5, 2) := by decide +kernel
theorem dX2_promises_100 : decode cX2_promises 100 = .ok (.iload_n 2, 1) := by decide +kernel
theorem dX2_promises_101 : decode cX2_promises 101 = .ok (.invokevirtual 67, 3) := by decide +kernel
theorem dX2_promises_104 : decode cX2_promises 104 = .ok (.istore 8, 2) := by decide +kernel
theorem dX2_promises_106 : decode cX2_promises 106 = .ok (.lload_n 3, 1) := by decide +kernel
theorem dX2_promises_107 : decode cX2_promises 107 = .ok (.lconst 0, 1) := by decide +kernel
theorem dX2_promises_108 : decode cX2_promises 108 = .ok (.aload_n 1, 1) := by decide +kernel
theorem dX2_promises_109 : decode cX2_promises 109 = .ok (.iload 8, 2) := by decide +kernel
theorem dX2_promises_111 : decode cX2_promises 111 = .ok (.aload_n 0, 1) := by decide +kernel
theorem dX2_promises_112 : decode cX2_promises 112 = .ok (.getfield 15, 3) := by decide +kernel
theorem dX2_promises_115 : decode cX2_promises 115 = .ok (.iload 7, 2) := by decide +kernel
theorem dX2_promises_117 : decode cX2_promises 117 = .ok (.iload_n 2, 1) := by decide +kernel
theorem dX2_promises_118 : decode cX2_promises 118 = .ok (.invokevirtual 102, 3) := by decide +kernel
theorem dX2_promises_121 : decode cX2_promises 121 = .ok (.invokevirtual 207, 3) := by decide +kernel
theorem dX2_promises_124 : decode cX2_promises 124 = .ok (.aload_n 1, 1) := by decide +kernel
theorem dX2_promises_125 : decode cX2_promises 125 = .ok (.iload 8, 2) := by decide +kernel
theorem dX2_promises_127 : decode cX2_promises 127 = .ok (.iload 6, 2) := by decide +kernel
theorem dX2_promises_129 : decode cX2_promises 129 = .ok (.invokevirtual 207, 3) := by decide +kernel
theorem dX2_promises_132 : decode cX2_promises 132 = .ok (.lsub, 1) := by decide +kernel
theorem dX2_promises_133 : decode cX2_promises 133 = .ok (.invokestatic 215, 3) := by decide +kernel
theorem dX2_promises_136 : decode cX2_promises 136 = .ok (.lsub, 1) := by decide +kernel
theorem dX2_promises_137 : decode cX2_promises 137 = .ok (.lstore_n 3, 1) := by decide +kernel
theorem dX2_promises_138 : decode cX2_promises 138 = .ok (.goto 31, 3) := by decide +kernel
theorem dX2_promises_141 : decode cX2_promises 141 = .ok (.aload_n 0, 1) := by decide +kernel
theorem dX2_promises_142 : decode cX2_promises 142 = .ok (.iload 5, 2) := by decide +kernel
theorem dX2_promises_144 : decode cX2_promises 144 = .ok (.iload_n 2, 1) := by decide +kernel
theorem dX2_promises_145 : decode cX2_promises 145 = .ok (.invokevirtual 96, 3) := by decide +kernel
theorem dX2_promises_148 : decode cX2_promises 148 = .ok (.iconst (-1), 1) := by decide +kernel
theorem dX2_promises_149 : decode cX2_promises 149 = .ok (.if_icmp .eq 20, 3) := by decide +kernel
theorem dX2_promises_152 : decode cX2_promises 152 = .ok (.lload_n 3, 1) := by decide +kernel
theorem dX2_promises_153 : decode cX2_promises 153 = .ok (.aload_n 1, 1) := by decide +kernel
theorem dX2_promises_154 : decode cX2_promises 154 = .ok (.aload_n 0, 1) := by decide +kernel
theorem dX2_promises_155 : decode cX2_promises 155 = .ok (.iload 5, 2) := by decide +kernel
theorem dX2_promises_157 : decode cX2_promises 157 = .ok (.iload_n 2, 1) := by decide +kernel
theorem dX2_promises_158 : decode cX2_promises 158 = .ok (.invokevirtual 171, 3) := by decide +kernel
theorem dX2_promises_161 : decode cX2_promises 161 = .ok (.l2i, 1) := by decide +kernel
theorem dX2_promises_162 : decode cX2_promises 162 = .ok (.iload 6, 2) := by decide +kernel
theorem dX2_promises_164 : decode cX2_promises 164 = .ok (.invokevirtual 207, 3) := by decide +kernel
theorem dX2_promises_167 : decode cX2_promises 167 = .ok (.lsub, 1) := by decide +kernel
theorem dX2_promises_168 : decode cX2_promises 168 = .ok (.lstore_n 3, 1) := by decide +kernel
theorem dX2_promises_169 : decode cX2_promises 169 = .ok (.iinc 5 1, 3) := by decide +kernel
theorem dX2_promises_172 : decode cX2_promises 172 = .ok (.goto (-167), 3) := by decide +kernel
theorem dX2_promises_175 : decode cX2_promises 175 = .ok (.lload_n 3, 1) := by decide +kernel
theorem dX2_promises_176 : decode cX2_promises 176 = .ok (.lreturn, 1) := by decide +kernel
set_option maxRecDepth 100000 in
theorem t_Cn_promises_J169 (hC : CX z ad x cX2_promises RX2 9 (some .long)) (hR : x.2.2.1 = rmk 8 0 0) (k_5 : XS → Int32 → Int64 → Int32 → Option (Int64 × XS)) (hk_5 : ∀ (τ : XS) (a2 : Int32) (a3 : Int64) (a5 : Int32), AT z x 9 (wX z σ) rJ (eqA ad) 0 0 0 0 ad 5 [(0, .ref 76), (1, .ref 68), (2, .int a2), (3, .long a3), (5, .int a5)] [] τ (k_5 τ a2 a3 a5)) (τ : XS) (a2 : Int32) (a3 : Int64) (a5 : Int32) : AT z x 9 (wX z σ) rJ (eqA ad) 0 0 0 0 ad 169 [(0, .ref 76), (1, .ref 68), (2, .int a2), (3, .long a3), (5, .int a5)] [] τ (Cn_promises_J169 k_5 τ a2 a3 a5) := by
  unfold Cn_promises_J169
  refine at_iinc (j := 4) (v := a5 + 1) (lv' := [(5, .int (a5 + 1)), (0, .ref 76), (1, .ref 68), (2, .int a2), (3, .long a3)]) hC dX2_promises_169 rfl rfl (by decide) rfl ?_
  refine at_goto (tgt := 5) hC dX2_promises_172 rfl ?_
  refine at_drop (lv' := [(0, .ref 76), (1, .ref 68), (2, .int a2), (3, .long a3), (5, .int (a5 + 1))]) [1, 2, 3, 4, 0] rfl ?_
  exact hk_5 τ a2 a3 (a5 + 1)
set_option maxRecDepth 100000 in
theorem t_Cn_promises_L5 (hC : CX z ad x cX2_promises RX2 9 (some .long)) (hR : x.2.2.1 = rmk 8 0 0) (n : Nat) (τ : XS) (a2 : Int32) (a3 : Int64) (a5 : Int32) : AT z x 9 (wX z σ) rJ (eqA ad) 0 0 0 0 ad 5 [(0, .ref 76), (1, .ref 68), (2, .int a2), (3, .long a3), (5, .int a5)] [] τ (Cn_promises_L5 n τ a2 a3 a5) := by
  revert τ a2 a3 a5
  show ∀ (τ : XS) (a2 : Int32) (a3 : Int64) (a5 : Int32), AT z x 9 (wX z σ) rJ (eqA ad) 0 0 0 0 ad 5 [(0, .ref 76), (1, .ref 68), (2, .int a2), (3, .long a3), (5, .int a5)] [] τ (Cn_promises_L5_r n τ a2 a3 a5)
  induction n with
  | zero => intro τ a2 a3 a5; exact at_none
  | succ n hk_5 =>
    intro τ a2 a3 a5
    unfold Cn_promises_L5_r
    refine at_iload (j := 4) hC rfl dX2_promises_5 ?_
    refine at_aload_n (j := 0) hC rfl rfl dX2_promises_7 ?_
    refine gf_X2_15 hC dX2_promises_8 ?_
    refine gf_X2_54 hC dX2_promises_11 ?_
    refine at_icmp_ge (tgt := 175) hC dX2_promises_14 rfl (fun _ => ?_) (fun _ => ?_)
    · refine at_lload_n (j := 3) hC rfl rfl dX2_promises_175 ?_
      exact at_lret (F := eqA ad) (ra := rJ) hC dX2_promises_176 rfl (Nat.le_refl 0) (Nat.le_refl 0) rfl
    · refine at_aload_n (j := 0) hC rfl rfl dX2_promises_17 ?_
      refine gf_X2_19 hC dX2_promises_18 ?_
      refine at_iload (j := 4) hC rfl dX2_promises_21 ?_
      refine at_iload_n (j := 2) hC rfl rfl dX2_promises_23 ?_
      refine at_callVpI hC hR lk_X2_86 (c_Lv_livesOn τ a5 a2) dX2_promises_24 recX4 rfl rfl ⟨by decide, by decide⟩ (Nat.le_of_ble_eq_true rfl) ⟨Nat.le_refl 0, Nat.le_refl 0⟩ (fun r1 _ => ?_)
      refine at_if_ne (tgt := 33) hC dX2_promises_27 rfl (fun _ => ?_) (fun _ => ?_)
      · refine at_aload_n (j := 0) hC rfl rfl dX2_promises_33 ?_
        refine gf_X2_15 hC dX2_promises_34 ?_
        refine at_iload (j := 4) hC rfl dX2_promises_37 ?_
        refine at_iload_n (j := 2) hC rfl rfl dX2_promises_39 ?_
        refine at_callVpI hC hR lk_X2_102 (c_Bk_ageOn τ a5 a2) dX2_promises_40 recX1 rfl rfl ⟨by decide, by decide⟩ (Nat.le_of_ble_eq_true rfl) ⟨Nat.le_refl 0, Nat.le_refl 0⟩ (fun r2 _ => ?_)
        refine at_istore (lv' := [(6, .int r2), (0, .ref 76), (1, .ref 68), (2, .int a2), (3, .long a3), (5, .int a5)]) hC dX2_promises_43 (by decide) rfl ?_
        refine at_aload_n (j := 1) hC rfl rfl dX2_promises_45 ?_
        refine gf_X2_19 hC dX2_promises_46 ?_
        refine at_iload (j := 5) hC rfl dX2_promises_49 ?_
        refine at_iload_n (j := 3) hC rfl rfl dX2_promises_51 ?_
        refine at_callVpI hC hR lk_X2_63 (c_Lv_standing τ a5 a2) dX2_promises_52 recX4 rfl rfl ⟨by decide, by decide⟩ (Nat.le_of_ble_eq_true rfl) ⟨Nat.le_refl 0, Nat.le_refl 0⟩ (fun r3 _ => ?_)
        refine at_iconst hC ic_1 dX2_promises_55 ?_
        refine at_icmp_ne (tgt := 141) hC dX2_promises_56 rfl (fun _ => ?_) (fun _ => ?_)
        · refine at_aload_n (j := 1) hC rfl rfl dX2_promises_141 ?_
          refine at_iload (j := 5) hC rfl dX2_promises_142 ?_
          refine at_iload_n (j := 3) hC rfl rfl dX2_promises_144 ?_
          refine at_callVpI hC hR lk_X2_96 (c_Cn_deadHusband τ a5 a2) dX2_promises_145 recX2 rfl rfl ⟨by decide, by decide⟩ (Nat.le_of_ble_eq_true rfl) ⟨Nat.le_refl 0, Nat.le_refl 0⟩ (fun r4 _ => ?_)
          refine at_iconst hC ic_m1 dX2_promises_148 ?_
          refine at_icmp_eq (tgt := 169) hC dX2_promises_149 rfl (fun _ => ?_) (fun _ => ?_)
          · refine at_drop (lv' := [(0, .ref 76), (1, .ref 68), (2, .int a2), (3, .long a3), (5, .int a5)]) [1, 2, 3, 4, 5] rfl ?_
            exact t_Cn_promises_J169 hC hR (Cn_promises_L5_r n) hk_5 τ a2 a3 a5
          · refine at_lload_n (j := 4) hC rfl rfl dX2_promises_152 ?_
            refine at_aload_n (j := 2) hC rfl rfl dX2_promises_153 ?_
            refine at_aload_n (j := 1) hC rfl rfl dX2_promises_154 ?_
            refine at_iload (j := 5) hC rfl dX2_promises_155 ?_
            refine at_iload_n (j := 3) hC rfl rfl dX2_promises_157 ?_
            refine at_callVJ hC hR lk_X2_171 (c_Cn_yearlyRent τ a5 a2) dX2_promises_158 recX2 rfl rfl ⟨by decide, by decide⟩ (Nat.le_of_ble_eq_true rfl) ⟨Nat.le_refl 0, Nat.le_refl 0⟩ (fun r5 r5s _ => ?_)
            refine at_l2i hC dX2_promises_161 ?_
            refine at_iload (j := 0) hC rfl dX2_promises_162 ?_
            refine at_callVpJ hC hR lk_X2_207 (c_Tb_worthOf r5s r5.toInt32 r2) dX2_promises_164 recX6 rfl rfl ⟨by decide, by decide⟩ (Nat.le_of_ble_eq_true rfl) ⟨Nat.le_refl 0, Nat.le_refl 0⟩ (fun r6 _ => ?_)
            refine at_lsub hC dX2_promises_167 ?_
            refine at_lstore_n (lv' := [(3, .long (a3 - r6)), (6, .int r2), (0, .ref 76), (1, .ref 68), (2, .int a2), (5, .int a5)]) hC rfl dX2_promises_168 (by decide) rfl ?_
            refine at_drop (lv' := [(0, .ref 76), (1, .ref 68), (2, .int a2), (3, .long (a3 - r6)), (5, .int a5)]) [2, 3, 4, 0, 5] rfl ?_
            exact t_Cn_promises_J169 hC hR (Cn_promises_L5_r n) hk_5 r5s a2 (a3 - r6) a5
        · refine at_lload_n (j := 4) hC rfl rfl dX2_promises_59 ?_
          refine at_aload_n (j := 2) hC rfl rfl dX2_promises_60 ?_
          refine at_aload_n (j := 1) hC rfl rfl dX2_promises_61 ?_
          refine at_iconst hC ic_0 dX2_promises_62 ?_
          refine at_iload (j := 5) hC rfl dX2_promises_63 ?_
          refine at_iload_n (j := 3) hC rfl rfl dX2_promises_65 ?_
          refine at_callVI hC hR lk_X2_67 (c_Cn_comesTo τ 0 a5 a2) dX2_promises_66 recX2 rfl rfl ⟨by decide, by decide⟩ (Nat.le_of_ble_eq_true rfl) ⟨Nat.le_refl 0, Nat.le_refl 0⟩ (fun r7 r7s _ => ?_)
          refine at_iload (j := 0) hC rfl dX2_promises_69 ?_
          refine at_callVpJ hC hR lk_X2_207 (c_Tb_worthOf r7s r7 r2) dX2_promises_71 recX6 rfl rfl ⟨by decide, by decide⟩ (Nat.le_of_ble_eq_true rfl) ⟨Nat.le_refl 0, Nat.le_refl 0⟩ (fun r8 _ => ?_)
          refine at_ladd hC dX2_promises_74 ?_
          refine at_lstore_n (lv' := [(3, .long (a3 + r8)), (6, .int r2), (0, .ref 76), (1, .ref 68), (2, .int a2), (5, .int a5)]) hC rfl dX2_promises_75 (by decide) rfl ?_
          refine at_aload_n (j := 2) hC rfl rfl dX2_promises_76 ?_
          refine gf_X2_19 hC dX2_promises_77 ?_
          refine at_iload (j := 5) hC rfl dX2_promises_80 ?_
          refine at_iload_n (j := 4) hC rfl rfl dX2_promises_82 ?_
          refine at_callVpI hC hR lk_X2_212 (c_Lv_wedTo r7s a5 a2) dX2_promises_83 recX4 rfl rfl ⟨by decide, by decide⟩ (Nat.le_of_ble_eq_true rfl) ⟨Nat.le_refl 0, Nat.le_refl 0⟩ (fun r9 _ => ?_)
          refine at_istore (lv' := [(7, .int r9), (3, .long (a3 + r8)), (6, .int r2), (0, .ref 76), (1, .ref 68), (2, .int a2), (5, .int a5)]) hC dX2_promises_86 (by decide) rfl ?_
          refine at_iload (j := 0) hC rfl dX2_promises_88 ?_
          refine at_if_ge (tgt := 96) hC dX2_promises_90 rfl (fun _ => ?_) (fun _ => ?_)
          · refine at_aload_n (j := 3) hC rfl rfl dX2_promises_96 ?_
            refine at_iconst hC ic_1 dX2_promises_97 ?_
            refine at_iload (j := 6) hC rfl dX2_promises_98 ?_
            refine at_iload_n (j := 5) hC rfl rfl dX2_promises_100 ?_
            refine at_callVI hC hR lk_X2_67 (c_Cn_comesTo r7s 1 a5 a2) dX2_promises_101 recX2 rfl rfl ⟨by decide, by decide⟩ (Nat.le_of_ble_eq_true rfl) ⟨Nat.le_refl 0, Nat.le_refl 0⟩ (fun r10 r10s _ => ?_)
            refine at_istore (lv' := [(8, .int r10), (7, .int r9), (3, .long (a3 + r8)), (6, .int r2), (0, .ref 76), (1, .ref 68), (2, .int a2), (5, .int a5)]) hC dX2_promises_104 (by decide) rfl ?_
            refine at_lload_n (j := 2) hC rfl rfl dX2_promises_106 ?_
            refine at_lconst hC lc_0 dX2_promises_107 ?_
            refine at_aload_n (j := 5) hC rfl rfl dX2_promises_108 ?_
            refine at_iload (j := 0) hC rfl dX2_promises_109 ?_
            refine at_aload_n (j := 4) hC rfl rfl dX2_promises_111 ?_
            refine gf_X2_15 hC dX2_promises_112 ?_
            refine at_iload (j := 1) hC rfl dX2_promises_115 ?_
            refine at_iload_n (j := 6) hC rfl rfl dX2_promises_117 ?_
            refine at_callVpI hC hR lk_X2_102 (c_Bk_ageOn r10s r9 a2) dX2_promises_118 recX1 rfl rfl ⟨by decide, by decide⟩ (Nat.le_of_ble_eq_true rfl) ⟨Nat.le_refl 0, Nat.le_refl 0⟩ (fun r11 _ => ?_)
            refine at_callVpJ hC hR lk_X2_207 (c_Tb_worthOf r10s r10 r11) dX2_promises_121 recX6 rfl rfl ⟨by decide, by decide⟩ (Nat.le_of_ble_eq_true rfl) ⟨Nat.le_refl 0, Nat.le_refl 0⟩ (fun r12 _ => ?_)
            refine at_aload_n (j := 5) hC rfl rfl dX2_promises_124 ?_
            refine at_iload (j := 0) hC rfl dX2_promises_125 ?_
            refine at_iload (j := 3) hC rfl dX2_promises_127 ?_
            refine at_callVpJ hC hR lk_X2_207 (c_Tb_worthOf r10s r10 r2) dX2_promises_129 recX6 rfl rfl ⟨by decide, by decide⟩ (Nat.le_of_ble_eq_true rfl) ⟨Nat.le_refl 0, Nat.le_refl 0⟩ (fun r13 _ => ?_)
            refine at_lsub hC dX2_promises_132 ?_
            refine at_mxJ hC hR lkm_X2_215 dX2_promises_133 (by decide) (Nat.le_of_ble_eq_true rfl) ⟨Nat.le_refl 0, Nat.le_refl 0⟩ ?_
            refine at_lsub hC dX2_promises_136 ?_
            refine at_lstore_n (lv' := [(3, .long ((a3 + r8) - (mxJ 0 (r12 - r13)))), (8, .int r10), (7, .int r9), (6, .int r2), (0, .ref 76), (1, .ref 68), (2, .int a2), (5, .int a5)]) hC rfl dX2_promises_137 (by decide) rfl ?_
            refine at_goto (tgt := 169) hC dX2_promises_138 rfl ?_
            refine at_drop (lv' := [(0, .ref 76), (1, .ref 68), (2, .int a2), (3, .long ((a3 + r8) - (mxJ 0 (r12 - r13)))), (5, .int a5)]) [4, 5, 6, 0, 7] rfl ?_
            exact t_Cn_promises_J169 hC hR (Cn_promises_L5_r n) hk_5 r10s a2 ((a3 + r8) - (mxJ 0 (r12 - r13))) a5
          · refine at_goto (tgt := 169) hC dX2_promises_93 rfl ?_
            refine at_drop (lv' := [(0, .ref 76), (1, .ref 68), (2, .int a2), (3, .long (a3 + r8)), (5, .int a5)]) [3, 4, 5, 1, 6] rfl ?_
            exact t_Cn_promises_J169 hC hR (Cn_promises_L5_r n) hk_5 r7s a2 (a3 + r8) a5
      · refine at_goto (tgt := 169) hC dX2_promises_30 rfl ?_
        exact t_Cn_promises_J169 hC hR (Cn_promises_L5_r n) hk_5 τ a2 a3 a5
set_option maxRecDepth 100000 in
theorem c_Cn_promises (τ : XS) (p1 : Int32) : Ct z (wX z σ) rJ eqA yX2_promises cX2_promises 9 (some .long) 8 0 0 [.ref 76, .ref 68, .int p1] τ (Cn_promises τ p1) := by
  refine Ct.of (by decide) (Nat.le_of_ble_eq_true rfl) (fun ad x hC hR _ => ?_)
  show AT z x 9 (wX z σ) rJ (eqA ad) 0 0 0 0 ad 0 [(0, .ref 76), (1, .ref 68), (2, .int p1)] [] τ (Cn_promises τ p1)
  unfold Cn_promises
  refine at_lconst hC lc_0 dX2_promises_0 ?_
  refine at_lstore_n (lv' := [(3, .long 0), (0, .ref 76), (1, .ref 68), (2, .int p1)]) hC rfl dX2_promises_1 (by decide) rfl ?_
  refine at_iconst hC ic_0 dX2_promises_2 ?_
  refine at_istore (lv' := [(5, .int 0), (3, .long 0), (0, .ref 76), (1, .ref 68), (2, .int p1)]) hC dX2_promises_3 (by decide) rfl ?_
  refine at_drop (lv' := [(0, .ref 76), (1, .ref 68), (2, .int p1), (3, .long 0), (5, .int 0)]) [2, 3, 4, 1, 0] rfl ?_
  exact t_Cn_promises_L5 hC hR 100000 τ p1 0 0
end G
