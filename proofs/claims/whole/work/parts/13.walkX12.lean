section G
variable {z : ZZ} {x : XX} {ad : Nat → Nat} {σ : MS}
theorem dX10_death_0 : decode cX10_death 0 = .ok (.aload_n 0, 1) := by decide +kernel
theorem dX10_death_1 : decode cX10_death 1 = .ok (.getfield 14, 3) := by decide +kernel
theorem dX10_death_4 : decode cX10_death 4 = .ok (.iload_n 1, 1) := by decide +kernel
theorem dX10_death_5 : decode cX10_death 5 = .ok (.invokevirtual 107, 3) := by decide +kernel
theorem dX10_death_8 : decode cX10_death 8 = .ok (.ifCond .ne 5, 3) := by decide +kernel
theorem dX10_death_11 : decode cX10_death 11 = .ok (.iconst (-1), 1) := by decide +kernel
theorem dX10_death_12 : decode cX10_death 12 = .ok (.ireturn, 1) := by decide +kernel
theorem dX10_death_13 : decode cX10_death 13 = .ok (.iload_n 2, 1) := by decide +kernel
theorem dX10_death_14 : decode cX10_death 14 = .ok (.invokestatic 93, 3) := by decide +kernel
theorem dX10_death_17 : decode cX10_death 17 = .ok (.ifCond .ne 6, 3) := by decide +kernel
theorem dX10_death_20 : decode cX10_death 20 = .ok (.bipush (-2), 2) := by decide +kernel
theorem dX10_death_22 : decode cX10_death 22 = .ok (.ireturn, 1) := by decide +kernel
theorem dX10_death_23 : decode cX10_death 23 = .ok (.aload_n 0, 1) := by decide +kernel
theorem dX10_death_24 : decode cX10_death 24 = .ok (.getfield 23, 3) := by decide +kernel
theorem dX10_death_27 : decode cX10_death 27 = .ok (.iconst (-1), 1) := by decide +kernel
theorem dX10_death_28 : decode cX10_death 28 = .ok (.invokevirtual 119, 3) := by decide +kernel
theorem dX10_death_31 : decode cX10_death 31 = .ok (.aload_n 0, 1) := by decide +kernel
theorem dX10_death_32 : decode cX10_death 32 = .ok (.getfield 23, 3) := by decide +kernel
theorem dX10_death_35 : decode cX10_death 35 = .ok (.iload_n 1, 1) := by decide +kernel
theorem dX10_death_36 : decode cX10_death 36 = .ok (.iload_n 2, 1) := by decide +kernel
theorem dX10_death_37 : decode cX10_death 37 = .ok (.invokevirtual 123, 3) := by decide +kernel
theorem dX10_death_40 : decode cX10_death 40 = .ok (.ifCond .ne 6, 3) := by decide +kernel
theorem dX10_death_43 : decode cX10_death 43 = .ok (.bipush (-3), 2) := by decide +kernel
theorem dX10_death_45 : decode cX10_death 45 = .ok (.ireturn, 1) := by decide +kernel
theorem dX10_death_46 : decode cX10_death 46 = .ok (.aload_n 0, 1) := by decide +kernel
theorem dX10_death_47 : decode cX10_death 47 = .ok (.getfield 14, 3) := by decide +kernel
theorem dX10_death_50 : decode cX10_death 50 = .ok (.iconst 0, 1) := by decide +kernel
theorem dX10_death_51 : decode cX10_death 51 = .ok (.iload_n 1, 1) := by decide +kernel
theorem dX10_death_52 : decode cX10_death 52 = .ok (.iconst (-1), 1) := by decide +kernel
theorem dX10_death_53 : decode cX10_death 53 = .ok (.iload_n 2, 1) := by decide +kernel
theorem dX10_death_54 : decode cX10_death 54 = .ok (.iconst (-1), 1) := by decide +kernel
theorem dX10_death_55 : decode cX10_death 55 = .ok (.invokevirtual 131, 3) := by decide +kernel
theorem dX10_death_58 : decode cX10_death 58 = .ok (.ireturn, 1) := by decide +kernel
set_option maxRecDepth 100000 in
theorem c_W_death (τ : XS) (p0 : Int32) (p1 : Int32) : Ct z (wX z σ) rI eqA yX10_death cX10_death 3 (some .int) 6 0 0 [.ref 36, .int p0, .int p1] τ (W_death τ p0 p1) := by
  refine Ct.of (by decide) (Nat.le_of_ble_eq_true rfl) (fun ad x hC hR _ => ?_)
  show AT z x 3 (wX z σ) rI (eqA ad) 0 0 0 0 ad 0 [(0, .ref 36), (1, .int p0), (2, .int p1)] [] τ (W_death τ p0 p1)
  unfold W_death
  refine at_aload_n (j := 0) hC rfl rfl dX10_death_0 ?_
  refine gf_X10_14 hC dX10_death_1 ?_
  refine at_iload_n (j := 1) hC rfl rfl dX10_death_4 ?_
  refine at_callVpI hC hR lk_X10_107 (c_Bk_isPerson τ p0) dX10_death_5 recX1 rfl rfl ⟨by decide, by decide⟩ (Nat.le_of_ble_eq_true rfl) ⟨Nat.le_refl 0, Nat.le_refl 0⟩ (fun r1 _ => ?_)
  refine at_if_ne (tgt := 13) hC dX10_death_8 rfl (fun _ => ?_) (fun _ => ?_)
  · refine at_iload_n (j := 2) hC rfl rfl dX10_death_13 ?_
    refine at_callSpI hC hR lk_X10_93 (c_W_isDay τ p1) dX10_death_14 rfl rfl ⟨by decide, by decide⟩ (Nat.le_of_ble_eq_true rfl) ⟨Nat.le_refl 0, Nat.le_refl 0⟩ (fun r2 _ => ?_)
    refine at_if_ne (tgt := 23) hC dX10_death_17 rfl (fun _ => ?_) (fun _ => ?_)
    · refine at_aload_n (j := 0) hC rfl rfl dX10_death_23 ?_
      refine gf_X10_23 hC dX10_death_24 ?_
      refine at_iconst hC ic_m1 dX10_death_27 ?_
      refine at_callVU hC hR lk_X10_119 (c_Lv_readBook τ (-1)) dX10_death_28 recX4 rfl rfl ⟨by decide, by decide⟩ (Nat.le_of_ble_eq_true rfl) ⟨Nat.le_refl 0, Nat.le_refl 0⟩ (fun r3 r3s _ => ?_)
      refine at_aload_n (j := 0) hC rfl rfl dX10_death_31 ?_
      refine gf_X10_23 hC dX10_death_32 ?_
      refine at_iload_n (j := 1) hC rfl rfl dX10_death_35 ?_
      refine at_iload_n (j := 2) hC rfl rfl dX10_death_36 ?_
      refine at_callVpI hC hR lk_X10_123 (c_Lv_livesOn r3s p0 p1) dX10_death_37 recX4 rfl rfl ⟨by decide, by decide⟩ (Nat.le_of_ble_eq_true rfl) ⟨Nat.le_refl 0, Nat.le_refl 0⟩ (fun r4 _ => ?_)
      refine at_if_ne (tgt := 46) hC dX10_death_40 rfl (fun _ => ?_) (fun _ => ?_)
      · refine at_aload_n (j := 0) hC rfl rfl dX10_death_46 ?_
        refine gf_X10_14 hC dX10_death_47 ?_
        refine at_iconst hC ic_0 dX10_death_50 ?_
        refine at_iload_n (j := 1) hC rfl rfl dX10_death_51 ?_
        refine at_iconst hC ic_m1 dX10_death_52 ?_
        refine at_iload_n (j := 2) hC rfl rfl dX10_death_53 ?_
        refine at_iconst hC ic_m1 dX10_death_54 ?_
        refine at_callVI hC hR lk_X10_131 (c_Bk_addEntry r3s 0 p0 (-1) p1 (-1)) dX10_death_55 recX1 rfl rfl ⟨by decide, by decide⟩ (Nat.le_of_ble_eq_true rfl) ⟨Nat.le_refl 0, Nat.le_refl 0⟩ (fun r5 r5s _ => ?_)
        exact at_iret (F := eqA ad) (ra := rI) hC dX10_death_58 rfl (Nat.le_refl 0) (Nat.le_refl 0) rfl
      · refine at_bipush hC bi_m3 dX10_death_43 ?_
        exact at_iret (F := eqA ad) (ra := rI) hC dX10_death_45 rfl (Nat.le_refl 0) (Nat.le_refl 0) rfl
    · refine at_bipush hC bi_m2 dX10_death_20 ?_
      exact at_iret (F := eqA ad) (ra := rI) hC dX10_death_22 rfl (Nat.le_refl 0) (Nat.le_refl 0) rfl
  · refine at_iconst hC ic_m1 dX10_death_11 ?_
    exact at_iret (F := eqA ad) (ra := rI) hC dX10_death_12 rfl (Nat.le_refl 0) (Nat.le_refl 0) rfl
theorem dX10_isRate_0 : decode cX10_isRate 0 = .ok (.iload_n 0, 1) := by decide +kernel
theorem dX10_isRate_1 : decode cX10_isRate 1 = .ok (.ifCond .lt 12, 3) := by decide +kernel
theorem dX10_isRate_4 : decode cX10_isRate 4 = .ok (.iload_n 0, 1) := by decide +kernel
theorem dX10_isRate_5 : decode cX10_isRate 5 = .ok (.iconst 3, 1) := by decide +kernel
theorem dX10_isRate_6 : decode cX10_isRate 6 = .ok (.if_icmp .gt 7, 3) := by decide +kernel
theorem dX10_isRate_9 : decode cX10_isRate 9 = .ok (.iconst 1, 1) := by decide +kernel
theorem dX10_isRate_10 : decode cX10_isRate 10 = .ok (.goto 4, 3) := by decide +kernel
theorem dX10_isRate_13 : decode cX10_isRate 13 = .ok (.iconst 0, 1) := by decide +kernel
theorem dX10_isRate_14 : decode cX10_isRate 14 = .ok (.ireturn, 1) := by decide +kernel
set_option maxRecDepth 100000 in
theorem c_W_isRate (τ : XS) (p0 : Int32) : Ct z (wX z σ) rI eqA yX10_isRate cX10_isRate 1 (some .boolean) 1 0 0 [.int p0] τ ((W_isRate τ p0).map fun r => (r, τ)) := by
  refine Ct.of (by decide) (Nat.le_of_ble_eq_true rfl) (fun ad x hC hR _ => ?_)
  show AT z x 1 (wX z σ) rI (eqA ad) 0 0 0 0 ad 0 [(0, .int p0)] [] τ ((W_isRate τ p0).map fun r => (r, τ))
  unfold W_isRate
  refine at_iload_n (j := 0) hC rfl rfl dX10_isRate_0 ?_
  refine ap_if_lt (tgt := 13) hC dX10_isRate_1 rfl (fun _ => ?_) (fun _ => ?_)
  · refine at_iconst hC ic_0 dX10_isRate_13 ?_
    exact at_zret (F := eqA ad) (ra := rI) hC nb0 dX10_isRate_14 rfl (Nat.le_refl 0) (Nat.le_refl 0) rfl
  · refine at_iload_n (j := 0) hC rfl rfl dX10_isRate_4 ?_
    refine at_iconst hC ic_3 dX10_isRate_5 ?_
    refine ap_icmp_gt (tgt := 13) hC dX10_isRate_6 rfl (fun _ => ?_) (fun _ => ?_)
    · refine at_iconst hC ic_0 dX10_isRate_13 ?_
      exact at_zret (F := eqA ad) (ra := rI) hC nb0 dX10_isRate_14 rfl (Nat.le_refl 0) (Nat.le_refl 0) rfl
    · refine at_iconst hC ic_1 dX10_isRate_9 ?_
      refine at_goto (tgt := 14) hC dX10_isRate_10 rfl ?_
      exact at_zret (F := eqA ad) (ra := rI) hC nb1 dX10_isRate_14 rfl (Nat.le_refl 0) (Nat.le_refl 0) rfl
theorem dX10_member_0 : decode cX10_member 0 = .ok (.aload_n 0, 1) := by decide +kernel
theorem dX10_member_1 : decode cX10_member 1 = .ok (.getfield 14, 3) := by decide +kernel
theorem dX10_member_4 : decode cX10_member 4 = .ok (.iload_n 1, 1) := by decide +kernel
theorem dX10_member_5 : decode cX10_member 5 = .ok (.invokevirtual 107, 3) := by decide +kernel
theorem dX10_member_8 : decode cX10_member 8 = .ok (.ifCond .eq 18, 3) := by decide +kernel
theorem dX10_member_11 : decode cX10_member 11 = .ok (.iload_n 2, 1) := by decide +kernel
theorem dX10_member_12 : decode cX10_member 12 = .ok (.ifCond .lt 14, 3) := by decide +kernel
theorem dX10_member_15 : decode cX10_member 15 = .ok (.iload_n 2, 1) := by decide +kernel
theorem dX10_member_16 : decode cX10_member 16 = .ok (.aload_n 0, 1) := by decide +kernel
theorem dX10_member_17 : decode cX10_member 17 = .ok (.getfield 14, 3) := by decide +kernel
theorem dX10_member_20 : decode cX10_member 20 = .ok (.getfield 82, 3) := by decide +kernel
theorem dX10_member_23 : decode cX10_member 23 = .ok (.if_icmp .lt 5, 3) := by decide +kernel
theorem dX10_member_26 : decode cX10_member 26 = .ok (.iconst (-1), 1) := by decide +kernel
theorem dX10_member_27 : decode cX10_member 27 = .ok (.ireturn, 1) := by decide +kernel
theorem dX10_member_28 : decode cX10_member 28 = .ok (.aload_n 0, 1) := by decide +kernel
theorem dX10_member_29 : decode cX10_member 29 = .ok (.getfield 14, 3) := by decide +kernel
theorem dX10_member_32 : decode cX10_member 32 = .ok (.iload_n 1, 1) := by decide +kernel
theorem dX10_member_33 : decode cX10_member 33 = .ok (.invokevirtual 86, 3) := by decide +kernel
theorem dX10_member_36 : decode cX10_member 36 = .ok (.ifCond .eq 18, 3) := by decide +kernel
theorem dX10_member_39 : decode cX10_member 39 = .ok (.iload_n 3, 1) := by decide +kernel
theorem dX10_member_40 : decode cX10_member 40 = .ok (.invokestatic 135, 3) := by decide +kernel
theorem dX10_member_43 : decode cX10_member 43 = .ok (.ifCond .eq 11, 3) := by decide +kernel
theorem dX10_member_46 : decode cX10_member 46 = .ok (.iload 4, 2) := by decide +kernel
theorem dX10_member_48 : decode cX10_member 48 = .ok (.invokestatic 93, 3) := by decide +kernel
theorem dX10_member_51 : decode cX10_member 51 = .ok (.ifCond .ne 6, 3) := by decide +kernel
theorem dX10_member_54 : decode cX10_member 54 = .ok (.bipush (-2), 2) := by decide +kernel
theorem dX10_member_56 : decode cX10_member 56 = .ok (.ireturn, 1) := by decide +kernel
theorem dX10_member_57 : decode cX10_member 57 = .ok (.aload_n 0, 1) := by decide +kernel
theorem dX10_member_58 : decode cX10_member 58 = .ok (.getfield 23, 3) := by decide +kernel
theorem dX10_member_61 : decode cX10_member 61 = .ok (.iconst (-1), 1) := by decide +kernel
theorem dX10_member_62 : decode cX10_member 62 = .ok (.invokevirtual 119, 3) := by decide +kernel
theorem dX10_member_65 : decode cX10_member 65 = .ok (.aload_n 0, 1) := by decide +kernel
theorem dX10_member_66 : decode cX10_member 66 = .ok (.getfield 23, 3) := by decide +kernel
theorem dX10_member_69 : decode cX10_member 69 = .ok (.iload_n 1, 1) := by decide +kernel
theorem dX10_member_70 : decode cX10_member 70 = .ok (.iload 4, 2) := by decide +kernel
theorem dX10_member_72 : decode cX10_member 72 = .ok (.invokevirtual 123, 3) := by decide +kernel
theorem dX10_member_75 : decode cX10_member 75 = .ok (.ifCond .eq 29, 3) := by decide +kernel
theorem dX10_member_78 : decode cX10_member 78 = .ok (.aload_n 0, 1) := by decide +kernel
theorem dX10_member_79 : decode cX10_member 79 = .ok (.getfield 23, 3) := by decide +kernel
theorem dX10_member_82 : decode cX10_member 82 = .ok (.iload_n 1, 1) := by decide +kernel
theorem dX10_member_83 : decode cX10_member 83 = .ok (.iload 4, 2) := by decide +kernel
theorem dX10_member_85 : decode cX10_member 85 = .ok (.invokevirtual 138, 3) := by decide +kernel
theorem dX10_member_88 : decode cX10_member 88 = .ok (.ifCond .ne 16, 3) := by decide +kernel
theorem dX10_member_91 : decode cX10_member 91 = .ok (.aload_n 0, 1) := by decide +kernel
theorem dX10_member_92 : decode cX10_member 92 = .ok (.getfield 23, 3) := by decide +kernel
theorem dX10_member_95 : decode cX10_member 95 = .ok (.iload_n 2, 1) := by decide +kernel
theorem dX10_member_96 : decode cX10_member 96 = .ok (.iload 4, 2) := by decide +kernel
theorem dX10_member_98 : decode cX10_member 98 = .ok (.invokevirtual 141, 3) := by decide +kernel
theorem dX10_member_101 : decode cX10_member 101 = .ok (.ifCond .eq 6, 3) := by decide +kernel
theorem dX10_member_104 : decode cX10_member 104 = .ok (.bipush (-3), 2) := by decide +kernel
theorem dX10_member_106 : decode cX10_member 106 = .ok (.ireturn, 1) := by decide +kernel
theorem dX10_member_107 : decode cX10_member 107 = .ok (.aload_n 0, 1) := by decide +kernel
theorem dX10_member_108 : decode cX10_member 108 = .ok (.getfield 14, 3) := by decide +kernel
theorem dX10_member_111 : decode cX10_member 111 = .ok (.iconst 2, 1) := by decide +kernel
theorem dX10_member_112 : decode cX10_member 112 = .ok (.iload_n 1, 1) := by decide +kernel
theorem dX10_member_113 : decode cX10_member 113 = .ok (.iload_n 2, 1) := by decide +kernel
theorem dX10_member_114 : decode cX10_member 114 = .ok (.iload 4, 2) := by decide +kernel
theorem dX10_member_116 : decode cX10_member 116 = .ok (.iload_n 3, 1) := by decide +kernel
theorem dX10_member_117 : decode cX10_member 117 = .ok (.invokevirtual 131, 3) := by decide +kernel
theorem dX10_member_120 : decode cX10_member 120 = .ok (.ireturn, 1) := by decide +kernel
set_option maxRecDepth 100000 in
theorem c_W_member (τ : XS) (p0 : Int32) (p1 : Int32) (p2 : Int32) (p3 : Int32) : Ct z (wX z σ) rI eqA yX10_member cX10_member 5 (some .int) 6 0 0 [.ref 36, .int p0, .int p1, .int p2, .int p3] τ (W_member τ p0 p1 p2 p3) := by
  refine Ct.of (by decide) (Nat.le_of_ble_eq_true rfl) (fun ad x hC hR _ => ?_)
  show AT z x 5 (wX z σ) rI (eqA ad) 0 0 0 0 ad 0 [(0, .ref 36), (1, .int p0), (2, .int p1), (3, .int p2), (4, .int p3)] [] τ (W_member τ p0 p1 p2 p3)
  unfold W_member
  refine at_aload_n (j := 0) hC rfl rfl dX10_member_0 ?_
  refine gf_X10_14 hC dX10_member_1 ?_
  refine at_iload_n (j := 1) hC rfl rfl dX10_member_4 ?_
  refine at_callVpI hC hR lk_X10_107 (c_Bk_isPerson τ p0) dX10_member_5 recX1 rfl rfl ⟨by decide, by decide⟩ (Nat.le_of_ble_eq_true rfl) ⟨Nat.le_refl 0, Nat.le_refl 0⟩ (fun r1 _ => ?_)
  refine at_if_eq (tgt := 26) hC dX10_member_8 rfl (fun _ => ?_) (fun _ => ?_)
  · refine at_iconst hC ic_m1 dX10_member_26 ?_
    exact at_iret (F := eqA ad) (ra := rI) hC dX10_member_27 rfl (Nat.le_refl 0) (Nat.le_refl 0) rfl
  · refine at_iload_n (j := 2) hC rfl rfl dX10_member_11 ?_
    refine at_if_lt (tgt := 26) hC dX10_member_12 rfl (fun _ => ?_) (fun _ => ?_)
    · refine at_iconst hC ic_m1 dX10_member_26 ?_
      exact at_iret (F := eqA ad) (ra := rI) hC dX10_member_27 rfl (Nat.le_refl 0) (Nat.le_refl 0) rfl
    · refine at_iload_n (j := 2) hC rfl rfl dX10_member_15 ?_
      refine at_aload_n (j := 0) hC rfl rfl dX10_member_16 ?_
      refine gf_X10_14 hC dX10_member_17 ?_
      refine gf_X10_82 hC dX10_member_20 ?_
      refine at_icmp_lt (tgt := 28) hC dX10_member_23 rfl (fun _ => ?_) (fun _ => ?_)
      · refine at_aload_n (j := 0) hC rfl rfl dX10_member_28 ?_
        refine gf_X10_14 hC dX10_member_29 ?_
        refine at_iload_n (j := 1) hC rfl rfl dX10_member_32 ?_
        refine at_callVpI hC hR lk_X10_86 (c_Bk_isMan τ p0) dX10_member_33 recX1 rfl rfl ⟨by decide, by decide⟩ (Nat.le_of_ble_eq_true rfl) ⟨Nat.le_refl 0, Nat.le_refl 0⟩ (fun r2 _ => ?_)
        refine at_if_eq (tgt := 54) hC dX10_member_36 rfl (fun _ => ?_) (fun _ => ?_)
        · refine at_bipush hC bi_m2 dX10_member_54 ?_
          exact at_iret (F := eqA ad) (ra := rI) hC dX10_member_56 rfl (Nat.le_refl 0) (Nat.le_refl 0) rfl
        · refine at_iload_n (j := 3) hC rfl rfl dX10_member_39 ?_
          refine at_callSpI hC hR lk_X10_135 (c_W_isRate τ p2) dX10_member_40 rfl rfl ⟨by decide, by decide⟩ (Nat.le_of_ble_eq_true rfl) ⟨Nat.le_refl 0, Nat.le_refl 0⟩ (fun r3 _ => ?_)
          refine at_if_eq (tgt := 54) hC dX10_member_43 rfl (fun _ => ?_) (fun _ => ?_)
          · refine at_bipush hC bi_m2 dX10_member_54 ?_
            exact at_iret (F := eqA ad) (ra := rI) hC dX10_member_56 rfl (Nat.le_refl 0) (Nat.le_refl 0) rfl
          · refine at_iload (j := 4) hC rfl dX10_member_46 ?_
            refine at_callSpI hC hR lk_X10_93 (c_W_isDay τ p3) dX10_member_48 rfl rfl ⟨by decide, by decide⟩ (Nat.le_of_ble_eq_true rfl) ⟨Nat.le_refl 0, Nat.le_refl 0⟩ (fun r4 _ => ?_)
            refine at_if_ne (tgt := 57) hC dX10_member_51 rfl (fun _ => ?_) (fun _ => ?_)
            · refine at_aload_n (j := 0) hC rfl rfl dX10_member_57 ?_
              refine gf_X10_23 hC dX10_member_58 ?_
              refine at_iconst hC ic_m1 dX10_member_61 ?_
              refine at_callVU hC hR lk_X10_119 (c_Lv_readBook τ (-1)) dX10_member_62 recX4 rfl rfl ⟨by decide, by decide⟩ (Nat.le_of_ble_eq_true rfl) ⟨Nat.le_refl 0, Nat.le_refl 0⟩ (fun r5 r5s _ => ?_)
              refine at_aload_n (j := 0) hC rfl rfl dX10_member_65 ?_
              refine gf_X10_23 hC dX10_member_66 ?_
              refine at_iload_n (j := 1) hC rfl rfl dX10_member_69 ?_
              refine at_iload (j := 4) hC rfl dX10_member_70 ?_
              refine at_callVpI hC hR lk_X10_123 (c_Lv_livesOn r5s p0 p3) dX10_member_72 recX4 rfl rfl ⟨by decide, by decide⟩ (Nat.le_of_ble_eq_true rfl) ⟨Nat.le_refl 0, Nat.le_refl 0⟩ (fun r6 _ => ?_)
              refine at_if_eq (tgt := 104) hC dX10_member_75 rfl (fun _ => ?_) (fun _ => ?_)
              · refine at_bipush hC bi_m3 dX10_member_104 ?_
                exact at_iret (F := eqA ad) (ra := rI) hC dX10_member_106 rfl (Nat.le_refl 0) (Nat.le_refl 0) rfl
              · refine at_aload_n (j := 0) hC rfl rfl dX10_member_78 ?_
                refine gf_X10_23 hC dX10_member_79 ?_
                refine at_iload_n (j := 1) hC rfl rfl dX10_member_82 ?_
                refine at_iload (j := 4) hC rfl dX10_member_83 ?_
                refine at_callVpI hC hR lk_X10_138 (c_Lv_standing r5s p0 p3) dX10_member_85 recX4 rfl rfl ⟨by decide, by decide⟩ (Nat.le_of_ble_eq_true rfl) ⟨Nat.le_refl 0, Nat.le_refl 0⟩ (fun r7 _ => ?_)
                refine at_if_ne (tgt := 104) hC dX10_member_88 rfl (fun _ => ?_) (fun _ => ?_)
                · refine at_bipush hC bi_m3 dX10_member_104 ?_
                  exact at_iret (F := eqA ad) (ra := rI) hC dX10_member_106 rfl (Nat.le_refl 0) (Nat.le_refl 0) rfl
                · refine at_aload_n (j := 0) hC rfl rfl dX10_member_91 ?_
                  refine gf_X10_23 hC dX10_member_92 ?_
                  refine at_iload_n (j := 2) hC rfl rfl dX10_member_95 ?_
                  refine at_iload (j := 4) hC rfl dX10_member_96 ?_
                  refine at_callVpI hC hR lk_X10_141 (c_Lv_isTaken r5s p1 p3) dX10_member_98 recX4 rfl rfl ⟨by decide, by decide⟩ (Nat.le_of_ble_eq_true rfl) ⟨Nat.le_refl 0, Nat.le_refl 0⟩ (fun r8 _ => ?_)
                  refine at_if_eq (tgt := 107) hC dX10_member_101 rfl (fun _ => ?_) (fun _ => ?_)
                  · refine at_aload_n (j := 0) hC rfl rfl dX10_member_107 ?_
                    refine gf_X10_14 hC dX10_member_108 ?_
                    refine at_iconst hC ic_2 dX10_member_111 ?_
                    refine at_iload_n (j := 1) hC rfl rfl dX10_member_112 ?_
                    refine at_iload_n (j := 2) hC rfl rfl dX10_member_113 ?_
                    refine at_iload (j := 4) hC rfl dX10_member_114 ?_
                    refine at_iload_n (j := 3) hC rfl rfl dX10_member_116 ?_
                    refine at_callVI hC hR lk_X10_131 (c_Bk_addEntry r5s 2 p0 p1 p3 p2) dX10_member_117 recX1 rfl rfl ⟨by decide, by decide⟩ (Nat.le_of_ble_eq_true rfl) ⟨Nat.le_refl 0, Nat.le_refl 0⟩ (fun r9 r9s _ => ?_)
                    exact at_iret (F := eqA ad) (ra := rI) hC dX10_member_120 rfl (Nat.le_refl 0) (Nat.le_refl 0) rfl
                  · refine at_bipush hC bi_m3 dX10_member_104 ?_
                    exact at_iret (F := eqA ad) (ra := rI) hC dX10_member_106 rfl (Nat.le_refl 0) (Nat.le_refl 0) rfl
            · refine at_bipush hC bi_m2 dX10_member_54 ?_
              exact at_iret (F := eqA ad) (ra := rI) hC dX10_member_56 rfl (Nat.le_refl 0) (Nat.le_refl 0) rfl
      · refine at_iconst hC ic_m1 dX10_member_26 ?_
        exact at_iret (F := eqA ad) (ra := rI) hC dX10_member_27 rfl (Nat.le_refl 0) (Nat.le_refl 0) rfl
theorem dX10_tellOfMember_0 : decode cX10_tellOfMember 0 = .ok (.aload_n 0, 1) := by decide +kernel
theorem dX10_tellOfMember_1 : decode cX10_tellOfMember 1 = .ok (.getfield 23, 3) := by decide +kernel
theorem dX10_tellOfMember_4 : decode cX10_tellOfMember 4 = .ok (.iconst (-1), 1) := by decide +kernel
theorem dX10_tellOfMember_5 : decode cX10_tellOfMember 5 = .ok (.invokevirtual 119, 3) := by decide +kernel
theorem dX10_tellOfMember_8 : decode cX10_tellOfMember 8 = .ok (.aload_n 0, 1) := by decide +kernel
theorem dX10_tellOfMember_9 : decode cX10_tellOfMember 9 = .ok (.getfield 23, 3) := by decide +kernel
theorem dX10_tellOfMember_12 : decode cX10_tellOfMember 12 = .ok (.iload_n 2, 1) := by decide +kernel
theorem dX10_tellOfMember_13 : decode cX10_tellOfMember 13 = .ok (.iload 4, 2) := by decide +kernel
theorem dX10_tellOfMember_15 : decode cX10_tellOfMember 15 = .ok (.invokevirtual 138, 3) := by decide +kernel
theorem dX10_tellOfMember_18 : decode cX10_tellOfMember 18 = .ok (.iconst 1, 1) := by decide +kernel
theorem dX10_tellOfMember_19 : decode cX10_tellOfMember 19 = .ok (.if_icmp .eq 6, 3) := by decide +kernel
theorem dX10_tellOfMember_22 : decode cX10_tellOfMember 22 = .ok (.bipush (-3), 2) := by decide +kernel
theorem dX10_tellOfMember_24 : decode cX10_tellOfMember 24 = .ok (.ireturn, 1) := by decide +kernel
theorem dX10_tellOfMember_25 : decode cX10_tellOfMember 25 = .ok (.aload_n 0, 1) := by decide +kernel
theorem dX10_tellOfMember_26 : decode cX10_tellOfMember 26 = .ok (.getfield 14, 3) := by decide +kernel
theorem dX10_tellOfMember_29 : decode cX10_tellOfMember 29 = .ok (.iload_n 1, 1) := by decide +kernel
theorem dX10_tellOfMember_30 : decode cX10_tellOfMember 30 = .ok (.iload_n 2, 1) := by decide +kernel
theorem dX10_tellOfMember_31 : decode cX10_tellOfMember 31 = .ok (.iload_n 3, 1) := by decide +kernel
theorem dX10_tellOfMember_32 : decode cX10_tellOfMember 32 = .ok (.iload 4, 2) := by decide +kernel
theorem dX10_tellOfMember_34 : decode cX10_tellOfMember 34 = .ok (.iconst (-1), 1) := by decide +kernel
theorem dX10_tellOfMember_35 : decode cX10_tellOfMember 35 = .ok (.invokevirtual 131, 3) := by decide +kernel
theorem dX10_tellOfMember_38 : decode cX10_tellOfMember 38 = .ok (.ireturn, 1) := by decide +kernel
set_option maxRecDepth 100000 in
theorem c_W_tellOfMember (τ : XS) (p0 : Int32) (p1 : Int32) (p2 : Int32) (p3 : Int32) : Ct z (wX z σ) rI eqA yX10_tellOfMember cX10_tellOfMember 5 (some .int) 6 0 0 [.ref 36, .int p0, .int p1, .int p2, .int p3] τ (W_tellOfMember τ p0 p1 p2 p3) := by
  refine Ct.of (by decide) (Nat.le_of_ble_eq_true rfl) (fun ad x hC hR _ => ?_)
  show AT z x 5 (wX z σ) rI (eqA ad) 0 0 0 0 ad 0 [(0, .ref 36), (1, .int p0), (2, .int p1), (3, .int p2), (4, .int p3)] [] τ (W_tellOfMember τ p0 p1 p2 p3)
  unfold W_tellOfMember
  refine at_aload_n (j := 0) hC rfl rfl dX10_tellOfMember_0 ?_
  refine gf_X10_23 hC dX10_tellOfMember_1 ?_
  refine at_iconst hC ic_m1 dX10_tellOfMember_4 ?_
  refine at_callVU hC hR lk_X10_119 (c_Lv_readBook τ (-1)) dX10_tellOfMember_5 recX4 rfl rfl ⟨by decide, by decide⟩ (Nat.le_of_ble_eq_true rfl) ⟨Nat.le_refl 0, Nat.le_refl 0⟩ (fun r1 r1s _ => ?_)
  refine at_aload_n (j := 0) hC rfl rfl dX10_tellOfMember_8 ?_
  refine gf_X10_23 hC dX10_tellOfMember_9 ?_
  refine at_iload_n (j := 2) hC rfl rfl dX10_tellOfMember_12 ?_
  refine at_iload (j := 4) hC rfl dX10_tellOfMember_13 ?_
  refine at_callVpI hC hR lk_X10_138 (c_Lv_standing r1s p1 p3) dX10_tellOfMember_15 recX4 rfl rfl ⟨by decide, by decide⟩ (Nat.le_of_ble_eq_true rfl) ⟨Nat.le_refl 0, Nat.le_refl 0⟩ (fun r2 _ => ?_)
  refine at_iconst hC ic_1 dX10_tellOfMember_18 ?_
  refine at_icmp_eq (tgt := 25) hC dX10_tellOfMember_19 rfl (fun _ => ?_) (fun _ => ?_)
  · refine at_aload_n (j := 0) hC rfl rfl dX10_tellOfMember_25 ?_
    refine gf_X10_14 hC dX10_tellOfMember_26 ?_
    refine at_iload_n (j := 1) hC rfl rfl dX10_tellOfMember_29 ?_
    refine at_iload_n (j := 2) hC rfl rfl dX10_tellOfMember_30 ?_
    refine at_iload_n (j := 3) hC rfl rfl dX10_tellOfMember_31 ?_
    refine at_iload (j := 4) hC rfl dX10_tellOfMember_32 ?_
    refine at_iconst hC ic_m1 dX10_tellOfMember_34 ?_
    refine at_callVI hC hR lk_X10_131 (c_Bk_addEntry r1s p0 p1 p2 p3 (-1)) dX10_tellOfMember_35 recX1 rfl rfl ⟨by decide, by decide⟩ (Nat.le_of_ble_eq_true rfl) ⟨Nat.le_refl 0, Nat.le_refl 0⟩ (fun r3 r3s _ => ?_)
    exact at_iret (F := eqA ad) (ra := rI) hC dX10_tellOfMember_38 rfl (Nat.le_refl 0) (Nat.le_refl 0) rfl
  · refine at_bipush hC bi_m3 dX10_tellOfMember_22 ?_
    exact at_iret (F := eqA ad) (ra := rI) hC dX10_tellOfMember_24 rfl (Nat.le_refl 0) (Nat.le_refl 0) rfl
theorem dX10_rate_0 : decode cX10_rate 0 = .ok (.aload_n 0, 1) := by decide +kernel
theorem dX10_rate_1 : decode cX10_rate 1 = .ok (.getfield 14, 3) := by decide +kernel
theorem dX10_rate_4 : decode cX10_rate 4 = .ok (.iload_n 1, 1) := by decide +kernel
theorem dX10_rate_5 : decode cX10_rate 5 = .ok (.invokevirtual 107, 3) := by decide +kernel
theorem dX10_rate_8 : decode cX10_rate 8 = .ok (.ifCond .ne 5, 3) := by decide +kernel
theorem dX10_rate_11 : decode cX10_rate 11 = .ok (.iconst (-1), 1) := by decide +kernel
theorem dX10_rate_12 : decode cX10_rate 12 = .ok (.ireturn, 1) := by decide +kernel
theorem dX10_rate_13 : decode cX10_rate 13 = .ok (.aload_n 0, 1) := by decide +kernel
theorem dX10_rate_14 : decode cX10_rate 14 = .ok (.getfield 14, 3) := by decide +kernel
theorem dX10_rate_17 : decode cX10_rate 17 = .ok (.iload_n 1, 1) := by decide +kernel
theorem dX10_rate_18 : decode cX10_rate 18 = .ok (.invokevirtual 86, 3) := by decide +kernel
theorem dX10_rate_21 : decode cX10_rate 21 = .ok (.ifCond .eq 17, 3) := by decide +kernel
theorem dX10_rate_24 : decode cX10_rate 24 = .ok (.iload_n 2, 1) := by decide +kernel
theorem dX10_rate_25 : decode cX10_rate 25 = .ok (.invokestatic 135, 3) := by decide +kernel
theorem dX10_rate_28 : decode cX10_rate 28 = .ok (.ifCond .eq 10, 3) := by decide +kernel
theorem dX10_rate_31 : decode cX10_rate 31 = .ok (.iload_n 3, 1) := by decide +kernel
theorem dX10_rate_32 : decode cX10_rate 32 = .ok (.invokestatic 93, 3) := by decide +kernel
theorem dX10_rate_35 : decode cX10_rate 35 = .ok (.ifCond .ne 6, 3) := by decide +kernel
theorem dX10_rate_38 : decode cX10_rate 38 = .ok (.bipush (-2), 2) := by decide +kernel
theorem dX10_rate_40 : decode cX10_rate 40 = .ok (.ireturn, 1) := by decide +kernel
theorem dX10_rate_41 : decode cX10_rate 41 = .ok (.aload_n 0, 1) := by decide +kernel
theorem dX10_rate_42 : decode cX10_rate 42 = .ok (.iconst 3, 1) := by decide +kernel
theorem dX10_rate_43 : decode cX10_rate 43 = .ok (.iload_n 1, 1) := by decide +kernel
theorem dX10_rate_44 : decode cX10_rate 44 = .ok (.iload_n 2, 1) := by decide +kernel
theorem dX10_rate_45 : decode cX10_rate 45 = .ok (.iload_n 3, 1) := by decide +kernel
theorem dX10_rate_46 : decode cX10_rate 46 = .ok (.invokevirtual 144, 3) := by decide +kernel
theorem dX10_rate_49 : decode cX10_rate 49 = .ok (.ireturn, 1) := by decide +kernel
set_option maxRecDepth 100000 in
theorem c_W_rate (τ : XS) (p0 : Int32) (p1 : Int32) (p2 : Int32) : Ct z (wX z σ) rI eqA yX10_rate cX10_rate 4 (some .int) 7 0 0 [.ref 36, .int p0, .int p1, .int p2] τ (W_rate τ p0 p1 p2) := by
  refine Ct.of (by decide) (Nat.le_of_ble_eq_true rfl) (fun ad x hC hR _ => ?_)
  show AT z x 4 (wX z σ) rI (eqA ad) 0 0 0 0 ad 0 [(0, .ref 36), (1, .int p0), (2, .int p1), (3, .int p2)] [] τ (W_rate τ p0 p1 p2)
  unfold W_rate
  refine at_aload_n (j := 0) hC rfl rfl dX10_rate_0 ?_
  refine gf_X10_14 hC dX10_rate_1 ?_
  refine at_iload_n (j := 1) hC rfl rfl dX10_rate_4 ?_
  refine at_callVpI hC hR lk_X10_107 (c_Bk_isPerson τ p0) dX10_rate_5 recX1 rfl rfl ⟨by decide, by decide⟩ (Nat.le_of_ble_eq_true rfl) ⟨Nat.le_refl 0, Nat.le_refl 0⟩ (fun r1 _ => ?_)
  refine at_if_ne (tgt := 13) hC dX10_rate_8 rfl (fun _ => ?_) (fun _ => ?_)
  · refine at_aload_n (j := 0) hC rfl rfl dX10_rate_13 ?_
    refine gf_X10_14 hC dX10_rate_14 ?_
    refine at_iload_n (j := 1) hC rfl rfl dX10_rate_17 ?_
    refine at_callVpI hC hR lk_X10_86 (c_Bk_isMan τ p0) dX10_rate_18 recX1 rfl rfl ⟨by decide, by decide⟩ (Nat.le_of_ble_eq_true rfl) ⟨Nat.le_refl 0, Nat.le_refl 0⟩ (fun r2 _ => ?_)
    refine at_if_eq (tgt := 38) hC dX10_rate_21 rfl (fun _ => ?_) (fun _ => ?_)
    · refine at_bipush hC bi_m2 dX10_rate_38 ?_
      exact at_iret (F := eqA ad) (ra := rI) hC dX10_rate_40 rfl (Nat.le_refl 0) (Nat.le_refl 0) rfl
    · refine at_iload_n (j := 2) hC rfl rfl dX10_rate_24 ?_
      refine at_callSpI hC hR lk_X10_135 (c_W_isRate τ p1) dX10_rate_25 rfl rfl ⟨by decide, by decide⟩ (Nat.le_of_ble_eq_true rfl) ⟨Nat.le_refl 0, Nat.le_refl 0⟩ (fun r3 _ => ?_)
      refine at_if_eq (tgt := 38) hC dX10_rate_28 rfl (fun _ => ?_) (fun _ => ?_)
      · refine at_bipush hC bi_m2 dX10_rate_38 ?_
        exact at_iret (F := eqA ad) (ra := rI) hC dX10_rate_40 rfl (Nat.le_refl 0) (Nat.le_refl 0) rfl
      · refine at_iload_n (j := 3) hC rfl rfl dX10_rate_31 ?_
        refine at_callSpI hC hR lk_X10_93 (c_W_isDay τ p2) dX10_rate_32 rfl rfl ⟨by decide, by decide⟩ (Nat.le_of_ble_eq_true rfl) ⟨Nat.le_refl 0, Nat.le_refl 0⟩ (fun r4 _ => ?_)
        refine at_if_ne (tgt := 41) hC dX10_rate_35 rfl (fun _ => ?_) (fun _ => ?_)
        · refine at_aload_n (j := 0) hC rfl rfl dX10_rate_41 ?_
          refine at_iconst hC ic_3 dX10_rate_42 ?_
          refine at_iload_n (j := 1) hC rfl rfl dX10_rate_43 ?_
          refine at_iload_n (j := 2) hC rfl rfl dX10_rate_44 ?_
          refine at_iload_n (j := 3) hC rfl rfl dX10_rate_45 ?_
          refine at_callVI hC hR lk_X10_144 (c_W_tellOfMember τ 3 p0 p1 p2) dX10_rate_46 recX10 rfl rfl ⟨by decide, by decide⟩ (Nat.le_of_ble_eq_true rfl) ⟨Nat.le_refl 0, Nat.le_refl 0⟩ (fun r5 r5s _ => ?_)
          exact at_iret (F := eqA ad) (ra := rI) hC dX10_rate_49 rfl (Nat.le_refl 0) (Nat.le_refl 0) rfl
        · refine at_bipush hC bi_m2 dX10_rate_38 ?_
          exact at_iret (F := eqA ad) (ra := rI) hC dX10_rate_40 rfl (Nat.le_refl 0) (Nat.le_refl 0) rfl
  · refine at_iconst hC ic_m1 dX10_rate_11 ?_
    exact at_iret (F := eqA ad) (ra := rI) hC dX10_rate_12 rfl (Nat.le_refl 0) (Nat.le_refl 0) rfl
theorem dX10_gone_0 : decode cX10_gone 0 = .ok (.aload_n 0, 1) := by decide +kernel
theorem dX10_gone_1 : decode cX10_gone 1 = .ok (.getfield 14, 3) := by decide +kernel
theorem dX10_gone_4 : decode cX10_gone 4 = .ok (.iload_n 1, 1) := by decide +kernel
theorem dX10_gone_5 : decode cX10_gone 5 = .ok (.invokevirtual 107, 3) := by decide +kernel
theorem dX10_gone_8 : decode cX10_gone 8 = .ok (.ifCond .ne 5, 3) := by decide +kernel
theorem dX10_gone_11 : decode cX10_gone 11 = .ok (.iconst (-1), 1) := by decide +kernel
theorem dX10_gone_12 : decode cX10_gone 12 = .ok (.ireturn, 1) := by decide +kernel
theorem dX10_gone_13 : decode cX10_gone 13 = .ok (.aload_n 0, 1) := by decide +kernel
theorem dX10_gone_14 : decode cX10_gone 14 = .ok (.getfield 14, 3) := by decide +kernel
theorem dX10_gone_17 : decode cX10_gone 17 = .ok (.iload_n 1, 1) := by decide +kernel
theorem dX10_gone_18 : decode cX10_gone 18 = .ok (.invokevirtual 86, 3) := by decide +kernel
theorem dX10_gone_21 : decode cX10_gone 21 = .ok (.ifCond .eq 10, 3) := by decide +kernel
theorem dX10_gone_24 : decode cX10_gone 24 = .ok (.iload_n 3, 1) := by decide +kernel
theorem dX10_gone_25 : decode cX10_gone 25 = .ok (.invokestatic 93, 3) := by decide +kernel
theorem dX10_gone_28 : decode cX10_gone 28 = .ok (.ifCond .ne 6, 3) := by decide +kernel
theorem dX10_gone_31 : decode cX10_gone 31 = .ok (.bipush (-2), 2) := by decide +kernel
theorem dX10_gone_33 : decode cX10_gone 33 = .ok (.ireturn, 1) := by decide +kernel
theorem dX10_gone_34 : decode cX10_gone 34 = .ok (.iload_n 2, 1) := by decide +kernel
theorem dX10_gone_35 : decode cX10_gone 35 = .ok (.ifCond .ne 12, 3) := by decide +kernel
theorem dX10_gone_38 : decode cX10_gone 38 = .ok (.aload_n 0, 1) := by decide +kernel
theorem dX10_gone_39 : decode cX10_gone 39 = .ok (.iconst 4, 1) := by decide +kernel
theorem dX10_gone_40 : decode cX10_gone 40 = .ok (.iload_n 1, 1) := by decide +kernel
theorem dX10_gone_41 : decode cX10_gone 41 = .ok (.iconst (-1), 1) := by decide +kernel
theorem dX10_gone_42 : decode cX10_gone 42 = .ok (.iload_n 3, 1) := by decide +kernel
theorem dX10_gone_43 : decode cX10_gone 43 = .ok (.invokevirtual 144, 3) := by decide +kernel
theorem dX10_gone_46 : decode cX10_gone 46 = .ok (.ireturn, 1) := by decide +kernel
theorem dX10_gone_47 : decode cX10_gone 47 = .ok (.aload_n 0, 1) := by decide +kernel
theorem dX10_gone_48 : decode cX10_gone 48 = .ok (.getfield 23, 3) := by decide +kernel
theorem dX10_gone_51 : decode cX10_gone 51 = .ok (.iconst (-1), 1) := by decide +kernel
theorem dX10_gone_52 : decode cX10_gone 52 = .ok (.invokevirtual 119, 3) := by decide +kernel
theorem dX10_gone_55 : decode cX10_gone 55 = .ok (.aload_n 0, 1) := by decide +kernel
theorem dX10_gone_56 : decode cX10_gone 56 = .ok (.getfield 23, 3) := by decide +kernel
theorem dX10_gone_59 : decode cX10_gone 59 = .ok (.iload_n 1, 1) := by decide +kernel
theorem dX10_gone_60 : decode cX10_gone 60 = .ok (.iload_n 3, 1) := by decide +kernel
theorem dX10_gone_61 : decode cX10_gone 61 = .ok (.invokevirtual 138, 3) := by decide +kernel
theorem dX10_gone_64 : decode cX10_gone 64 = .ok (.iconst 2, 1) := by decide +kernel
theorem dX10_gone_65 : decode cX10_gone 65 = .ok (.if_icmp .ne 23, 3) := by decide +kernel
theorem dX10_gone_68 : decode cX10_gone 68 = .ok (.aload_n 0, 1) := by decide +kernel
theorem dX10_gone_69 : decode cX10_gone 69 = .ok (.getfield 23, 3) := by decide +kernel
theorem dX10_gone_72 : decode cX10_gone 72 = .ok (.aload_n 0, 1) := by decide +kernel
theorem dX10_gone_73 : decode cX10_gone 73 = .ok (.getfield 23, 3) := by decide +kernel
theorem dX10_gone_76 : decode cX10_gone 76 = .ok (.iload_n 1, 1) := by decide +kernel
theorem dX10_gone_77 : decode cX10_gone 77 = .ok (.iload_n 3, 1) := by decide +kernel
theorem dX10_gone_78 : decode cX10_gone 78 = .ok (.invokevirtual 147, 3) := by decide +kernel
theorem dX10_gone_81 : decode cX10_gone 81 = .ok (.iload_n 3, 1) := by decide +kernel
theorem dX10_gone_82 : decode cX10_gone 82 = .ok (.invokevirtual 141, 3) := by decide +kernel
theorem dX10_gone_85 : decode cX10_gone 85 = .ok (.ifCond .eq 6, 3) := by decide +kernel
theorem dX10_gone_88 : decode cX10_gone 88 = .ok (.bipush (-3), 2) := by decide +kernel
theorem dX10_gone_90 : decode cX10_gone 90 = .ok (.ireturn, 1) := by decide +kernel
theorem dX10_gone_91 : decode cX10_gone 91 = .ok (.aload_n 0, 1) := by decide +kernel
theorem dX10_gone_92 : decode cX10_gone 92 = .ok (.getfield 14, 3) := by decide +kernel
theorem dX10_gone_95 : decode cX10_gone 95 = .ok (.iconst 5, 1) := by decide +kernel
theorem dX10_gone_96 : decode cX10_gone 96 = .ok (.iload_n 1, 1) := by decide +kernel
theorem dX10_gone_97 : decode cX10_gone 97 = .ok (.iconst (-1), 1) := by decide +kernel
theorem dX10_gone_98 : decode cX10_gone 98 = .ok (.iload_n 3, 1) := by decide +kernel
theorem dX10_gone_99 : decode cX10_gone 99 = .ok (.iconst (-1), 1) := by decide +kernel
theorem dX10_gone_100 : decode cX10_gone 100 = .ok (.invokevirtual 131, 3) := by decide +kernel
theorem dX10_gone_103 : decode cX10_gone 103 = .ok (.ireturn, 1) := by decide +kernel
set_option maxRecDepth 100000 in
theorem c_W_gone (τ : XS) (p0 : Int32) (p1 : Int32) (p2 : Int32) : Ct z (wX z σ) rI eqA yX10_gone cX10_gone 4 (some .int) 7 0 0 [.ref 36, .int p0, .int p1, .int p2] τ (W_gone τ p0 p1 p2) := by
  refine Ct.of (by decide) (Nat.le_of_ble_eq_true rfl) (fun ad x hC hR _ => ?_)
  show AT z x 4 (wX z σ) rI (eqA ad) 0 0 0 0 ad 0 [(0, .ref 36), (1, .int p0), (2, .int p1), (3, .int p2)] [] τ (W_gone τ p0 p1 p2)
  unfold W_gone
  refine at_aload_n (j := 0) hC rfl rfl dX10_gone_0 ?_
  refine gf_X10_14 hC dX10_gone_1 ?_
  refine at_iload_n (j := 1) hC rfl rfl dX10_gone_4 ?_
  refine at_callVpI hC hR lk_X10_107 (c_Bk_isPerson τ p0) dX10_gone_5 recX1 rfl rfl ⟨by decide, by decide⟩ (Nat.le_of_ble_eq_true rfl) ⟨Nat.le_refl 0, Nat.le_refl 0⟩ (fun r1 _ => ?_)
  refine at_if_ne (tgt := 13) hC dX10_gone_8 rfl (fun _ => ?_) (fun _ => ?_)
  · refine at_aload_n (j := 0) hC rfl rfl dX10_gone_13 ?_
    refine gf_X10_14 hC dX10_gone_14 ?_
    refine at_iload_n (j := 1) hC rfl rfl dX10_gone_17 ?_
    refine at_callVpI hC hR lk_X10_86 (c_Bk_isMan τ p0) dX10_gone_18 recX1 rfl rfl ⟨by decide, by decide⟩ (Nat.le_of_ble_eq_true rfl) ⟨Nat.le_refl 0, Nat.le_refl 0⟩ (fun r2 _ => ?_)
    refine at_if_eq (tgt := 31) hC dX10_gone_21 rfl (fun _ => ?_) (fun _ => ?_)
    · refine at_bipush hC bi_m2 dX10_gone_31 ?_
      exact at_iret (F := eqA ad) (ra := rI) hC dX10_gone_33 rfl (Nat.le_refl 0) (Nat.le_refl 0) rfl
    · refine at_iload_n (j := 3) hC rfl rfl dX10_gone_24 ?_
      refine at_callSpI hC hR lk_X10_93 (c_W_isDay τ p2) dX10_gone_25 rfl rfl ⟨by decide, by decide⟩ (Nat.le_of_ble_eq_true rfl) ⟨Nat.le_refl 0, Nat.le_refl 0⟩ (fun r3 _ => ?_)
      refine at_if_ne (tgt := 34) hC dX10_gone_28 rfl (fun _ => ?_) (fun _ => ?_)
      · refine at_iload_n (j := 2) hC rfl rfl dX10_gone_34 ?_
        refine at_if_ne (tgt := 47) hC dX10_gone_35 rfl (fun _ => ?_) (fun _ => ?_)
        · refine at_aload_n (j := 0) hC rfl rfl dX10_gone_47 ?_
          refine gf_X10_23 hC dX10_gone_48 ?_
          refine at_iconst hC ic_m1 dX10_gone_51 ?_
          refine at_callVU hC hR lk_X10_119 (c_Lv_readBook τ (-1)) dX10_gone_52 recX4 rfl rfl ⟨by decide, by decide⟩ (Nat.le_of_ble_eq_true rfl) ⟨Nat.le_refl 0, Nat.le_refl 0⟩ (fun r4 r4s _ => ?_)
          refine at_aload_n (j := 0) hC rfl rfl dX10_gone_55 ?_
          refine gf_X10_23 hC dX10_gone_56 ?_
          refine at_iload_n (j := 1) hC rfl rfl dX10_gone_59 ?_
          refine at_iload_n (j := 3) hC rfl rfl dX10_gone_60 ?_
          refine at_callVpI hC hR lk_X10_138 (c_Lv_standing r4s p0 p2) dX10_gone_61 recX4 rfl rfl ⟨by decide, by decide⟩ (Nat.le_of_ble_eq_true rfl) ⟨Nat.le_refl 0, Nat.le_refl 0⟩ (fun r5 _ => ?_)
          refine at_iconst hC ic_2 dX10_gone_64 ?_
          refine at_icmp_ne (tgt := 88) hC dX10_gone_65 rfl (fun _ => ?_) (fun _ => ?_)
          · refine at_bipush hC bi_m3 dX10_gone_88 ?_
            exact at_iret (F := eqA ad) (ra := rI) hC dX10_gone_90 rfl (Nat.le_refl 0) (Nat.le_refl 0) rfl
          · refine at_aload_n (j := 0) hC rfl rfl dX10_gone_68 ?_
            refine gf_X10_23 hC dX10_gone_69 ?_
            refine at_aload_n (j := 0) hC rfl rfl dX10_gone_72 ?_
            refine gf_X10_23 hC dX10_gone_73 ?_
            refine at_iload_n (j := 1) hC rfl rfl dX10_gone_76 ?_
            refine at_iload_n (j := 3) hC rfl rfl dX10_gone_77 ?_
            refine at_callVpI hC hR lk_X10_147 (c_Lv_seatOf r4s p0 p2) dX10_gone_78 recX4 rfl rfl ⟨by decide, by decide⟩ (Nat.le_of_ble_eq_true rfl) ⟨Nat.le_refl 0, Nat.le_refl 0⟩ (fun r6 _ => ?_)
            refine at_iload_n (j := 3) hC rfl rfl dX10_gone_81 ?_
            refine at_callVpI hC hR lk_X10_141 (c_Lv_isTaken r4s r6 p2) dX10_gone_82 recX4 rfl rfl ⟨by decide, by decide⟩ (Nat.le_of_ble_eq_true rfl) ⟨Nat.le_refl 0, Nat.le_refl 0⟩ (fun r7 _ => ?_)
            refine at_if_eq (tgt := 91) hC dX10_gone_85 rfl (fun _ => ?_) (fun _ => ?_)
            · refine at_aload_n (j := 0) hC rfl rfl dX10_gone_91 ?_
              refine gf_X10_14 hC dX10_gone_92 ?_
              refine at_iconst hC ic_5 dX10_gone_95 ?_
              refine at_iload_n (j := 1) hC rfl rfl dX10_gone_96 ?_
              refine at_iconst hC ic_m1 dX10_gone_97 ?_
              refine at_iload_n (j := 3) hC rfl rfl dX10_gone_98 ?_
              refine at_iconst hC ic_m1 dX10_gone_99 ?_
              refine at_callVI hC hR lk_X10_131 (c_Bk_addEntry r4s 5 p0 (-1) p2 (-1)) dX10_gone_100 recX1 rfl rfl ⟨by decide, by decide⟩ (Nat.le_of_ble_eq_true rfl) ⟨Nat.le_refl 0, Nat.le_refl 0⟩ (fun r8 r8s _ => ?_)
              exact at_iret (F := eqA ad) (ra := rI) hC dX10_gone_103 rfl (Nat.le_refl 0) (Nat.le_refl 0) rfl
            · refine at_bipush hC bi_m3 dX10_gone_88 ?_
              exact at_iret (F := eqA ad) (ra := rI) hC dX10_gone_90 rfl (Nat.le_refl 0) (Nat.le_refl 0) rfl
        · refine at_aload_n (j := 0) hC rfl rfl dX10_gone_38 ?_
          refine at_iconst hC ic_4 dX10_gone_39 ?_
          refine at_iload_n (j := 1) hC rfl rfl dX10_gone_40 ?_
          refine at_iconst hC ic_m1 dX10_gone_41 ?_
          refine at_iload_n (j := 3) hC rfl rfl dX10_gone_42 ?_
          refine at_callVI hC hR lk_X10_144 (c_W_tellOfMember τ 4 p0 (-1) p2) dX10_gone_43 recX10 rfl rfl ⟨by decide, by decide⟩ (Nat.le_of_ble_eq_true rfl) ⟨Nat.le_refl 0, Nat.le_refl 0⟩ (fun r9 r9s _ => ?_)
          exact at_iret (F := eqA ad) (ra := rI) hC dX10_gone_46 rfl (Nat.le_refl 0) (Nat.le_refl 0) rfl
      · refine at_bipush hC bi_m2 dX10_gone_31 ?_
        exact at_iret (F := eqA ad) (ra := rI) hC dX10_gone_33 rfl (Nat.le_refl 0) (Nat.le_refl 0) rfl
  · refine at_iconst hC ic_m1 dX10_gone_11 ?_
    exact at_iret (F := eqA ad) (ra := rI) hC dX10_gone_12 rfl (Nat.le_refl 0) (Nat.le_refl 0) rfl
theorem dX10_pay_0 : decode cX10_pay 0 = .ok (.aload_n 0, 1) := by decide +kernel
theorem dX10_pay_1 : decode cX10_pay 1 = .ok (.getfield 14, 3) := by decide +kernel
theorem dX10_pay_4 : decode cX10_pay 4 = .ok (.iload_n 1, 1) := by decide +kernel
theorem dX10_pay_5 : decode cX10_pay 5 = .ok (.invokevirtual 107, 3) := by decide +kernel
theorem dX10_pay_8 : decode cX10_pay 8 = .ok (.ifCond .ne 5, 3) := by decide +kernel
theorem dX10_pay_11 : decode cX10_pay 11 = .ok (.iconst (-1), 1) := by decide +kernel
theorem dX10_pay_12 : decode cX10_pay 12 = .ok (.ireturn, 1) := by decide +kernel
theorem dX10_pay_13 : decode cX10_pay 13 = .ok (.aload_n 0, 1) := by decide +kernel
theorem dX10_pay_14 : decode cX10_pay 14 = .ok (.getfield 14, 3) := by decide +kernel
theorem dX10_pay_17 : decode cX10_pay 17 = .ok (.iload_n 1, 1) := by decide +kernel
theorem dX10_pay_18 : decode cX10_pay 18 = .ok (.invokevirtual 86, 3) := by decide +kernel
theorem dX10_pay_21 : decode cX10_pay 21 = .ok (.ifCond .eq 22, 3) := by decide +kernel
theorem dX10_pay_24 : decode cX10_pay 24 = .ok (.iload_n 2, 1) := by decide +kernel
theorem dX10_pay_25 : decode cX10_pay 25 = .ok (.iconst 1, 1) := by decide +kernel
theorem dX10_pay_26 : decode cX10_pay 26 = .ok (.if_icmp .lt 17, 3) := by decide +kernel
theorem dX10_pay_29 : decode cX10_pay 29 = .ok (.iload_n 2, 1) := by decide +kernel
theorem dX10_pay_30 : decode cX10_pay 30 = .ok (.sipush 9999, 3) := by decide +kernel
theorem dX10_pay_33 : decode cX10_pay 33 = .ok (.if_icmp .gt 10, 3) := by decide +kernel
theorem dX10_pay_36 : decode cX10_pay 36 = .ok (.iload_n 3, 1) := by decide +kernel
theorem dX10_pay_37 : decode cX10_pay 37 = .ok (.invokestatic 93, 3) := by decide +kernel
theorem dX10_pay_40 : decode cX10_pay 40 = .ok (.ifCond .ne 6, 3) := by decide +kernel
theorem dX10_pay_43 : decode cX10_pay 43 = .ok (.bipush (-2), 2) := by decide +kernel
theorem dX10_pay_45 : decode cX10_pay 45 = .ok (.ireturn, 1) := by decide +kernel
theorem dX10_pay_46 : decode cX10_pay 46 = .ok (.aload_n 0, 1) := by decide +kernel
theorem dX10_pay_47 : decode cX10_pay 47 = .ok (.bipush 6, 2) := by decide +kernel
theorem dX10_pay_49 : decode cX10_pay 49 = .ok (.iload_n 1, 1) := by decide +kernel
theorem dX10_pay_50 : decode cX10_pay 50 = .ok (.iload_n 2, 1) := by decide +kernel
theorem dX10_pay_51 : decode cX10_pay 51 = .ok (.iload_n 3, 1) := by decide +kernel
theorem dX10_pay_52 : decode cX10_pay 52 = .ok (.invokevirtual 144, 3) := by decide +kernel
theorem dX10_pay_55 : decode cX10_pay 55 = .ok (.ireturn, 1) := by decide +kernel
set_option maxRecDepth 100000 in
theorem c_W_pay (τ : XS) (p0 : Int32) (p1 : Int32) (p2 : Int32) : Ct z (wX z σ) rI eqA yX10_pay cX10_pay 4 (some .int) 7 0 0 [.ref 36, .int p0, .int p1, .int p2] τ (W_pay τ p0 p1 p2) := by
  refine Ct.of (by decide) (Nat.le_of_ble_eq_true rfl) (fun ad x hC hR _ => ?_)
  show AT z x 4 (wX z σ) rI (eqA ad) 0 0 0 0 ad 0 [(0, .ref 36), (1, .int p0), (2, .int p1), (3, .int p2)] [] τ (W_pay τ p0 p1 p2)
  unfold W_pay
  refine at_aload_n (j := 0) hC rfl rfl dX10_pay_0 ?_
  refine gf_X10_14 hC dX10_pay_1 ?_
  refine at_iload_n (j := 1) hC rfl rfl dX10_pay_4 ?_
  refine at_callVpI hC hR lk_X10_107 (c_Bk_isPerson τ p0) dX10_pay_5 recX1 rfl rfl ⟨by decide, by decide⟩ (Nat.le_of_ble_eq_true rfl) ⟨Nat.le_refl 0, Nat.le_refl 0⟩ (fun r1 _ => ?_)
  refine at_if_ne (tgt := 13) hC dX10_pay_8 rfl (fun _ => ?_) (fun _ => ?_)
  · refine at_aload_n (j := 0) hC rfl rfl dX10_pay_13 ?_
    refine gf_X10_14 hC dX10_pay_14 ?_
    refine at_iload_n (j := 1) hC rfl rfl dX10_pay_17 ?_
    refine at_callVpI hC hR lk_X10_86 (c_Bk_isMan τ p0) dX10_pay_18 recX1 rfl rfl ⟨by decide, by decide⟩ (Nat.le_of_ble_eq_true rfl) ⟨Nat.le_refl 0, Nat.le_refl 0⟩ (fun r2 _ => ?_)
    refine at_if_eq (tgt := 43) hC dX10_pay_21 rfl (fun _ => ?_) (fun _ => ?_)
    · refine at_bipush hC bi_m2 dX10_pay_43 ?_
      exact at_iret (F := eqA ad) (ra := rI) hC dX10_pay_45 rfl (Nat.le_refl 0) (Nat.le_refl 0) rfl
    · refine at_iload_n (j := 2) hC rfl rfl dX10_pay_24 ?_
      refine at_iconst hC ic_1 dX10_pay_25 ?_
      refine at_icmp_lt (tgt := 43) hC dX10_pay_26 rfl (fun _ => ?_) (fun _ => ?_)
      · refine at_bipush hC bi_m2 dX10_pay_43 ?_
        exact at_iret (F := eqA ad) (ra := rI) hC dX10_pay_45 rfl (Nat.le_refl 0) (Nat.le_refl 0) rfl
      · refine at_iload_n (j := 2) hC rfl rfl dX10_pay_29 ?_
        refine at_sipush hC si_9999 dX10_pay_30 ?_
        refine at_icmp_gt (tgt := 43) hC dX10_pay_33 rfl (fun _ => ?_) (fun _ => ?_)
        · refine at_bipush hC bi_m2 dX10_pay_43 ?_
          exact at_iret (F := eqA ad) (ra := rI) hC dX10_pay_45 rfl (Nat.le_refl 0) (Nat.le_refl 0) rfl
        · refine at_iload_n (j := 3) hC rfl rfl dX10_pay_36 ?_
          refine at_callSpI hC hR lk_X10_93 (c_W_isDay τ p2) dX10_pay_37 rfl rfl ⟨by decide, by decide⟩ (Nat.le_of_ble_eq_true rfl) ⟨Nat.le_refl 0, Nat.le_refl 0⟩ (fun r3 _ => ?_)
          refine at_if_ne (tgt := 46) hC dX10_pay_40 rfl (fun _ => ?_) (fun _ => ?_)
          · refine at_aload_n (j := 0) hC rfl rfl dX10_pay_46 ?_
            refine at_bipush hC bi_6 dX10_pay_47 ?_
            refine at_iload_n (j := 1) hC rfl rfl dX10_pay_49 ?_
            refine at_iload_n (j := 2) hC rfl rfl dX10_pay_50 ?_
            refine at_iload_n (j := 3) hC rfl rfl dX10_pay_51 ?_
            refine at_callVI hC hR lk_X10_144 (c_W_tellOfMember τ 6 p0 p1 p2) dX10_pay_52 recX10 rfl rfl ⟨by decide, by decide⟩ (Nat.le_of_ble_eq_true rfl) ⟨Nat.le_refl 0, Nat.le_refl 0⟩ (fun r4 r4s _ => ?_)
            exact at_iret (F := eqA ad) (ra := rI) hC dX10_pay_55 rfl (Nat.le_refl 0) (Nat.le_refl 0) rfl
          · refine at_bipush hC bi_m2 dX10_pay_43 ?_
            exact at_iret (F := eqA ad) (ra := rI) hC dX10_pay_45 rfl (Nat.le_refl 0) (Nat.le_refl 0) rfl
  · refine at_iconst hC ic_m1 dX10_pay_11 ?_
    exact at_iret (F := eqA ad) (ra := rI) hC dX10_pay_12 rfl (Nat.le_refl 0) (Nat.le_refl 0) rfl
theorem dX10_strike_0 : decode cX10_strike 0 = .ok (.aload_n 0, 1) := by decide +kernel
theorem dX10_strike_1 : decode cX10_strike 1 = .ok (.getfield 14, 3) := by decide +kernel
theorem dX10_strike_4 : decode cX10_strike 4 = .ok (.iload_n 1, 1) := by decide +kernel
theorem dX10_strike_5 : decode cX10_strike 5 = .ok (.invokevirtual 150, 3) := by decide +kernel
theorem dX10_strike_8 : decode cX10_strike 8 = .ok (.ifCond .ne 5, 3) := by decide +kernel
theorem dX10_strike_11 : decode cX10_strike 11 = .ok (.iconst (-1), 1) := by decide +kernel
theorem dX10_strike_12 : decode cX10_strike 12 = .ok (.ireturn, 1) := by decide +kernel
theorem dX10_strike_13 : decode cX10_strike 13 = .ok (.aload_n 0, 1) := by decide +kernel
theorem dX10_strike_14 : decode cX10_strike 14 = .ok (.getfield 14, 3) := by decide +kernel
theorem dX10_strike_17 : decode cX10_strike 17 = .ok (.getfield 153, 3) := by decide +kernel
theorem dX10_strike_20 : decode cX10_strike 20 = .ok (.iload_n 1, 1) := by decide +kernel
theorem dX10_strike_21 : decode cX10_strike 21 = .ok (.iaload, 1) := by decide +kernel
theorem dX10_strike_22 : decode cX10_strike 22 = .ok (.bipush 7, 2) := by decide +kernel
theorem dX10_strike_24 : decode cX10_strike 24 = .ok (.if_icmp .eq 18, 3) := by decide +kernel
theorem dX10_strike_27 : decode cX10_strike 27 = .ok (.aload_n 0, 1) := by decide +kernel
theorem dX10_strike_28 : decode cX10_strike 28 = .ok (.getfield 14, 3) := by decide +kernel
theorem dX10_strike_31 : decode cX10_strike 31 = .ok (.getfield 156, 3) := by decide +kernel
theorem dX10_strike_34 : decode cX10_strike 34 = .ok (.iload_n 1, 1) := by decide +kernel
theorem dX10_strike_35 : decode cX10_strike 35 = .ok (.iaload, 1) := by decide +kernel
theorem dX10_strike_36 : decode cX10_strike 36 = .ok (.sipush 200, 3) := by decide +kernel
theorem dX10_strike_39 : decode cX10_strike 39 = .ok (.if_icmp .ge 6, 3) := by decide +kernel
theorem dX10_strike_42 : decode cX10_strike 42 = .ok (.bipush (-3), 2) := by decide +kernel
theorem dX10_strike_44 : decode cX10_strike 44 = .ok (.ireturn, 1) := by decide +kernel
theorem dX10_strike_45 : decode cX10_strike 45 = .ok (.aload_n 0, 1) := by decide +kernel
theorem dX10_strike_46 : decode cX10_strike 46 = .ok (.getfield 14, 3) := by decide +kernel
theorem dX10_strike_49 : decode cX10_strike 49 = .ok (.bipush 7, 2) := by decide +kernel
theorem dX10_strike_51 : decode cX10_strike 51 = .ok (.iload_n 1, 1) := by decide +kernel
theorem dX10_strike_52 : decode cX10_strike 52 = .ok (.iconst (-1), 1) := by decide +kernel
theorem dX10_strike_53 : decode cX10_strike 53 = .ok (.iconst (-1), 1) := by decide +kernel
theorem dX10_strike_54 : decode cX10_strike 54 = .ok (.iconst (-1), 1) := by decide +kernel
theorem dX10_strike_55 : decode cX10_strike 55 = .ok (.invokevirtual 131, 3) := by decide +kernel
theorem dX10_strike_58 : decode cX10_strike 58 = .ok (.ireturn, 1) := by decide +kernel
set_option maxRecDepth 100000 in
theorem c_W_strike (τ : XS) (p0 : Int32) : Ct z (wX z σ) rI eqA yX10_strike cX10_strike 2 (some .int) 3 0 0 [.ref 36, .int p0] τ (W_strike τ p0) := by
  refine Ct.of (by decide) (Nat.le_of_ble_eq_true rfl) (fun ad x hC hR _ => ?_)
  show AT z x 2 (wX z σ) rI (eqA ad) 0 0 0 0 ad 0 [(0, .ref 36), (1, .int p0)] [] τ (W_strike τ p0)
  unfold W_strike
  refine at_aload_n (j := 0) hC rfl rfl dX10_strike_0 ?_
  refine gf_X10_14 hC dX10_strike_1 ?_
  refine at_iload_n (j := 1) hC rfl rfl dX10_strike_4 ?_
  refine at_callVpI hC hR lk_X10_150 (c_Bk_isEntry τ p0) dX10_strike_5 recX1 rfl rfl ⟨by decide, by decide⟩ (Nat.le_of_ble_eq_true rfl) ⟨Nat.le_refl 0, Nat.le_refl 0⟩ (fun r1 _ => ?_)
  refine at_if_ne (tgt := 13) hC dX10_strike_8 rfl (fun _ => ?_) (fun _ => ?_)
  · refine at_aload_n (j := 0) hC rfl rfl dX10_strike_13 ?_
    refine gf_X10_14 hC dX10_strike_14 ?_
    refine gf_X10_153 hC dX10_strike_17 ?_
    refine at_iload_n (j := 1) hC rfl rfl dX10_strike_20 ?_
    refine at_iald hC 42 dX10_strike_21 cl_42 (fun v2 => ?_)
    refine at_bipush hC bi_7 dX10_strike_22 ?_
    refine at_icmp_eq (tgt := 42) hC dX10_strike_24 rfl (fun _ => ?_) (fun _ => ?_)
    · refine at_bipush hC bi_m3 dX10_strike_42 ?_
      exact at_iret (F := eqA ad) (ra := rI) hC dX10_strike_44 rfl (Nat.le_refl 0) (Nat.le_refl 0) rfl
    · refine at_aload_n (j := 0) hC rfl rfl dX10_strike_27 ?_
      refine gf_X10_14 hC dX10_strike_28 ?_
      refine gf_X10_156 hC dX10_strike_31 ?_
      refine at_iload_n (j := 1) hC rfl rfl dX10_strike_34 ?_
      refine at_iald hC 47 dX10_strike_35 cl_47 (fun v3 => ?_)
      refine at_sipush hC si_200 dX10_strike_36 ?_
      refine at_icmp_ge (tgt := 45) hC dX10_strike_39 rfl (fun _ => ?_) (fun _ => ?_)
      · refine at_aload_n (j := 0) hC rfl rfl dX10_strike_45 ?_
        refine gf_X10_14 hC dX10_strike_46 ?_
        refine at_bipush hC bi_7 dX10_strike_49 ?_
        refine at_iload_n (j := 1) hC rfl rfl dX10_strike_51 ?_
        refine at_iconst hC ic_m1 dX10_strike_52 ?_
        refine at_iconst hC ic_m1 dX10_strike_53 ?_
        refine at_iconst hC ic_m1 dX10_strike_54 ?_
        refine at_callVI hC hR lk_X10_131 (c_Bk_addEntry τ 7 p0 (-1) (-1) (-1)) dX10_strike_55 recX1 rfl rfl ⟨by decide, by decide⟩ (Nat.le_of_ble_eq_true rfl) ⟨Nat.le_refl 0, Nat.le_refl 0⟩ (fun r4 r4s _ => ?_)
        exact at_iret (F := eqA ad) (ra := rI) hC dX10_strike_58 rfl (Nat.le_refl 0) (Nat.le_refl 0) rfl
      · refine at_bipush hC bi_m3 dX10_strike_42 ?_
        exact at_iret (F := eqA ad) (ra := rI) hC dX10_strike_44 rfl (Nat.le_refl 0) (Nat.le_refl 0) rfl
  · refine at_iconst hC ic_m1 dX10_strike_11 ?_
    exact at_iret (F := eqA ad) (ra := rI) hC dX10_strike_12 rfl (Nat.le_refl 0) (Nat.le_refl 0) rfl
theorem dX10_known_0 : decode cX10_known 0 = .ok (.aload_n 0, 1) := by decide +kernel
theorem dX10_known_1 : decode cX10_known 1 = .ok (.getfield 14, 3) := by decide +kernel
theorem dX10_known_4 : decode cX10_known 4 = .ok (.iload_n 1, 1) := by decide +kernel
theorem dX10_known_5 : decode cX10_known 5 = .ok (.invokevirtual 150, 3) := by decide +kernel
theorem dX10_known_8 : decode cX10_known 8 = .ok (.ifCond .ne 5, 3) := by decide +kernel
theorem dX10_known_11 : decode cX10_known 11 = .ok (.iconst (-1), 1) := by decide +kernel
theorem dX10_known_12 : decode cX10_known 12 = .ok (.ireturn, 1) := by decide +kernel
theorem dX10_known_13 : decode cX10_known 13 = .ok (.iload_n 2, 1) := by decide +kernel
theorem dX10_known_14 : decode cX10_known 14 = .ok (.tableswitch 84 0 4 #[34, 44, 54, 64, 74], 34) := by decide +kernel
theorem dX10_known_48 : decode cX10_known 48 = .ok (.aload_n 0, 1) := by decide +kernel
theorem dX10_known_49 : decode cX10_known 49 = .ok (.getfield 14, 3) := by decide +kernel
theorem dX10_known_52 : decode cX10_known 52 = .ok (.getfield 153, 3) := by decide +kernel
theorem dX10_known_55 : decode cX10_known 55 = .ok (.iload_n 1, 1) := by decide +kernel
theorem dX10_known_56 : decode cX10_known 56 = .ok (.iaload, 1) := by decide +kernel
theorem dX10_known_57 : decode cX10_known 57 = .ok (.ireturn, 1) := by decide +kernel
theorem dX10_known_58 : decode cX10_known 58 = .ok (.aload_n 0, 1) := by decide +kernel
theorem dX10_known_59 : decode cX10_known 59 = .ok (.getfield 14, 3) := by decide +kernel
theorem dX10_known_62 : decode cX10_known 62 = .ok (.getfield 159, 3) := by decide +kernel
theorem dX10_known_65 : decode cX10_known 65 = .ok (.iload_n 1, 1) := by decide +kernel
theorem dX10_known_66 : decode cX10_known 66 = .ok (.iaload, 1) := by decide +kernel
theorem dX10_known_67 : decode cX10_known 67 = .ok (.ireturn, 1) := by decide +kernel
theorem dX10_known_68 : decode cX10_known 68 = .ok (.aload_n 0, 1) := by decide +kernel
theorem dX10_known_69 : decode cX10_known 69 = .ok (.getfield 14, 3) := by decide +kernel
theorem dX10_known_72 : decode cX10_known 72 = .ok (.getfield 162, 3) := by decide +kernel
theorem dX10_known_75 : decode cX10_known 75 = .ok (.iload_n 1, 1) := by decide +kernel
theorem dX10_known_76 : decode cX10_known 76 = .ok (.iaload, 1) := by decide +kernel
theorem dX10_known_77 : decode cX10_known 77 = .ok (.ireturn, 1) := by decide +kernel
theorem dX10_known_78 : decode cX10_known 78 = .ok (.aload_n 0, 1) := by decide +kernel
theorem dX10_known_79 : decode cX10_known 79 = .ok (.getfield 14, 3) := by decide +kernel
theorem dX10_known_82 : decode cX10_known 82 = .ok (.getfield 165, 3) := by decide +kernel
theorem dX10_known_85 : decode cX10_known 85 = .ok (.iload_n 1, 1) := by decide +kernel
theorem dX10_known_86 : decode cX10_known 86 = .ok (.iaload, 1) := by decide +kernel
theorem dX10_known_87 : decode cX10_known 87 = .ok (.ireturn, 1) := by decide +kernel
theorem dX10_known_88 : decode cX10_known 88 = .ok (.aload_n 0, 1) := by decide +kernel
theorem dX10_known_89 : decode cX10_known 89 = .ok (.getfield 14, 3) := by decide +kernel
theorem dX10_known_92 : decode cX10_known 92 = .ok (.getfield 168, 3) := by decide +kernel
theorem dX10_known_95 : decode cX10_known 95 = .ok (.iload_n 1, 1) := by decide +kernel
theorem dX10_known_96 : decode cX10_known 96 = .ok (.iaload, 1) := by decide +kernel
theorem dX10_known_97 : decode cX10_known 97 = .ok (.ireturn, 1) := by decide +kernel
theorem dX10_known_98 : decode cX10_known 98 = .ok (.iconst (-1), 1) := by decide +kernel
theorem dX10_known_99 : decode cX10_known 99 = .ok (.ireturn, 1) := by decide +kernel
set_option maxRecDepth 100000 in
theorem c_W_known (τ : XS) (p0 : Int32) (p1 : Int32) : Ct z (wX z σ) rI eqA yX10_known cX10_known 3 (some .int) 2 0 0 [.ref 36, .int p0, .int p1] τ ((W_known τ p0 p1).map fun r => (r, τ)) := by
  refine Ct.of (by decide) (Nat.le_of_ble_eq_true rfl) (fun ad x hC hR _ => ?_)
  show AT z x 3 (wX z σ) rI (eqA ad) 0 0 0 0 ad 0 [(0, .ref 36), (1, .int p0), (2, .int p1)] [] τ ((W_known τ p0 p1).map fun r => (r, τ))
  unfold W_known
  refine at_aload_n (j := 0) hC rfl rfl dX10_known_0 ?_
  refine gf_X10_14 hC dX10_known_1 ?_
  refine at_iload_n (j := 1) hC rfl rfl dX10_known_4 ?_
  refine ap_callVI hC hR lk_X10_150 (c_Bk_isEntry τ p0) dX10_known_5 recX1 rfl rfl ⟨by decide, by decide⟩ (Nat.le_of_ble_eq_true rfl) ⟨Nat.le_refl 0, Nat.le_refl 0⟩ (fun r1 _ => ?_)
  refine ap_if_ne (tgt := 13) hC dX10_known_8 rfl (fun _ => ?_) (fun _ => ?_)
  · refine at_iload_n (j := 2) hC rfl rfl dX10_known_13 ?_
    refine ap_sw (off := 34) (tgt := 48) (v := 0) hC 0 dX10_known_14 rfl rfl (by decide) (by decide) swp0 ?_ (fun hp0 => ?_)
    · refine at_aload_n (j := 0) hC rfl rfl dX10_known_48 ?_
      refine gf_X10_14 hC dX10_known_49 ?_
      refine gf_X10_153 hC dX10_known_52 ?_
      refine at_iload_n (j := 1) hC rfl rfl dX10_known_55 ?_
      refine ap_iald hC 42 dX10_known_56 cl_42 (fun v2 => ?_)
      exact at_iret (F := eqA ad) (ra := rI) hC dX10_known_57 rfl (Nat.le_refl 0) (Nat.le_refl 0) rfl
    refine ap_sw (off := 44) (tgt := 58) (v := 1) hC 1 dX10_known_14 rfl rfl (by decide) (by decide) hp0 ?_ (fun hp1 => ?_)
    · refine at_aload_n (j := 0) hC rfl rfl dX10_known_58 ?_
      refine gf_X10_14 hC dX10_known_59 ?_
      refine gf_X10_159 hC dX10_known_62 ?_
      refine at_iload_n (j := 1) hC rfl rfl dX10_known_65 ?_
      refine ap_iald hC 43 dX10_known_66 cl_43 (fun v3 => ?_)
      exact at_iret (F := eqA ad) (ra := rI) hC dX10_known_67 rfl (Nat.le_refl 0) (Nat.le_refl 0) rfl
    refine ap_sw (off := 54) (tgt := 68) (v := 2) hC 2 dX10_known_14 rfl rfl (by decide) (by decide) hp1 ?_ (fun hp2 => ?_)
    · refine at_aload_n (j := 0) hC rfl rfl dX10_known_68 ?_
      refine gf_X10_14 hC dX10_known_69 ?_
      refine gf_X10_162 hC dX10_known_72 ?_
      refine at_iload_n (j := 1) hC rfl rfl dX10_known_75 ?_
      refine ap_iald hC 44 dX10_known_76 cl_44 (fun v4 => ?_)
      exact at_iret (F := eqA ad) (ra := rI) hC dX10_known_77 rfl (Nat.le_refl 0) (Nat.le_refl 0) rfl
    refine ap_sw (off := 64) (tgt := 78) (v := 3) hC 3 dX10_known_14 rfl rfl (by decide) (by decide) hp2 ?_ (fun hp3 => ?_)
    · refine at_aload_n (j := 0) hC rfl rfl dX10_known_78 ?_
      refine gf_X10_14 hC dX10_known_79 ?_
      refine gf_X10_165 hC dX10_known_82 ?_
      refine at_iload_n (j := 1) hC rfl rfl dX10_known_85 ?_
      refine ap_iald hC 45 dX10_known_86 cl_45 (fun v5 => ?_)
      exact at_iret (F := eqA ad) (ra := rI) hC dX10_known_87 rfl (Nat.le_refl 0) (Nat.le_refl 0) rfl
    refine ap_sw (off := 74) (tgt := 88) (v := 4) hC 4 dX10_known_14 rfl rfl (by decide) (by decide) hp3 ?_ (fun hp4 => ?_)
    · refine at_aload_n (j := 0) hC rfl rfl dX10_known_88 ?_
      refine gf_X10_14 hC dX10_known_89 ?_
      refine gf_X10_168 hC dX10_known_92 ?_
      refine at_iload_n (j := 1) hC rfl rfl dX10_known_95 ?_
      refine ap_iald hC 46 dX10_known_96 cl_46 (fun v6 => ?_)
      exact at_iret (F := eqA ad) (ra := rI) hC dX10_known_97 rfl (Nat.le_refl 0) (Nat.le_refl 0) rfl
    refine at_swd (tgt := 98) hC 5 dX10_known_14 rfl (by decide) hp4 ?_
    refine at_iconst hC ic_m1 dX10_known_98 ?_
    exact at_iret (F := eqA ad) (ra := rI) hC dX10_known_99 rfl (Nat.le_refl 0) (Nat.le_refl 0) rfl
  · refine at_iconst hC ic_m1 dX10_known_11 ?_
    exact at_iret (F := eqA ad) (ra := rI) hC dX10_known_12 rfl (Nat.le_refl 0) (Nat.le_refl 0) rfl
theorem dX10_as_0 : decode cX10_as 0 = .ok (.aload_n 0, 1) := by decide +kernel
theorem dX10_as_1 : decode cX10_as 1 = .ok (.getfield 14, 3) := by decide +kernel
theorem dX10_as_4 : decode cX10_as 4 = .ok (.iload_n 1, 1) := by decide +kernel
theorem dX10_as_5 : decode cX10_as 5 = .ok (.invokevirtual 107, 3) := by decide +kernel
theorem dX10_as_8 : decode cX10_as 8 = .ok (.ifCond .eq 14, 3) := by decide +kernel
theorem dX10_as_11 : decode cX10_as 11 = .ok (.aload_n 0, 1) := by decide +kernel
theorem dX10_as_12 : decode cX10_as 12 = .ok (.getfield 14, 3) := by decide +kernel
theorem dX10_as_15 : decode cX10_as 15 = .ok (.iload_n 3, 1) := by decide +kernel
theorem dX10_as_16 : decode cX10_as 16 = .ok (.invokevirtual 171, 3) := by decide +kernel
theorem dX10_as_19 : decode cX10_as 19 = .ok (.ifCond .ne 5, 3) := by decide +kernel
theorem dX10_as_22 : decode cX10_as 22 = .ok (.iconst (-1), 1) := by decide +kernel
theorem dX10_as_23 : decode cX10_as 23 = .ok (.ireturn, 1) := by decide +kernel
theorem dX10_as_24 : decode cX10_as 24 = .ok (.iload_n 2, 1) := by decide +kernel
theorem dX10_as_25 : decode cX10_as 25 = .ok (.invokestatic 93, 3) := by decide +kernel
theorem dX10_as_28 : decode cX10_as 28 = .ok (.ifCond .ne 6, 3) := by decide +kernel
theorem dX10_as_31 : decode cX10_as 31 = .ok (.bipush (-2), 2) := by decide +kernel
theorem dX10_as_33 : decode cX10_as 33 = .ok (.ireturn, 1) := by decide +kernel
theorem dX10_as_34 : decode cX10_as 34 = .ok (.aload_n 0, 1) := by decide +kernel
theorem dX10_as_35 : decode cX10_as 35 = .ok (.getfield 67, 3) := by decide +kernel
theorem dX10_as_38 : decode cX10_as 38 = .ok (.iload_n 3, 1) := by decide +kernel
theorem dX10_as_39 : decode cX10_as 39 = .ok (.invokevirtual 174, 3) := by decide +kernel
theorem dX10_as_42 : decode cX10_as 42 = .ok (.aload_n 0, 1) := by decide +kernel
theorem dX10_as_43 : decode cX10_as 43 = .ok (.getfield 67, 3) := by decide +kernel
theorem dX10_as_46 : decode cX10_as 46 = .ok (.iload_n 1, 1) := by decide +kernel
theorem dX10_as_47 : decode cX10_as 47 = .ok (.iload_n 2, 1) := by decide +kernel
theorem dX10_as_48 : decode cX10_as 48 = .ok (.invokevirtual 177, 3) := by decide +kernel
theorem dX10_as_51 : decode cX10_as 51 = .ok (.ireturn, 1) := by decide +kernel
set_option maxRecDepth 100000 in
theorem c_W_as (τ : XS) (p0 : Int32) (p1 : Int32) (p2 : Int32) : Ct z (wX z σ) rI eqA yX10_as cX10_as 4 (some .int) 10 0 0 [.ref 36, .int p0, .int p1, .int p2] τ (W_as τ p0 p1 p2) := by
  refine Ct.of (by decide) (Nat.le_of_ble_eq_true rfl) (fun ad x hC hR _ => ?_)
  show AT z x 4 (wX z σ) rI (eqA ad) 0 0 0 0 ad 0 [(0, .ref 36), (1, .int p0), (2, .int p1), (3, .int p2)] [] τ (W_as τ p0 p1 p2)
  unfold W_as
  refine at_aload_n (j := 0) hC rfl rfl dX10_as_0 ?_
  refine gf_X10_14 hC dX10_as_1 ?_
  refine at_iload_n (j := 1) hC rfl rfl dX10_as_4 ?_
  refine at_callVpI hC hR lk_X10_107 (c_Bk_isPerson τ p0) dX10_as_5 recX1 rfl rfl ⟨by decide, by decide⟩ (Nat.le_of_ble_eq_true rfl) ⟨Nat.le_refl 0, Nat.le_refl 0⟩ (fun r1 _ => ?_)
  refine at_if_eq (tgt := 22) hC dX10_as_8 rfl (fun _ => ?_) (fun _ => ?_)
  · refine at_iconst hC ic_m1 dX10_as_22 ?_
    exact at_iret (F := eqA ad) (ra := rI) hC dX10_as_23 rfl (Nat.le_refl 0) (Nat.le_refl 0) rfl
  · refine at_aload_n (j := 0) hC rfl rfl dX10_as_11 ?_
    refine gf_X10_14 hC dX10_as_12 ?_
    refine at_iload_n (j := 3) hC rfl rfl dX10_as_15 ?_
    refine at_callVpI hC hR lk_X10_171 (c_Bk_isReach τ p2) dX10_as_16 recX1 rfl rfl ⟨by decide, by decide⟩ (Nat.le_of_ble_eq_true rfl) ⟨Nat.le_refl 0, Nat.le_refl 0⟩ (fun r2 _ => ?_)
    refine at_if_ne (tgt := 24) hC dX10_as_19 rfl (fun _ => ?_) (fun _ => ?_)
    · refine at_iload_n (j := 2) hC rfl rfl dX10_as_24 ?_
      refine at_callSpI hC hR lk_X10_93 (c_W_isDay τ p1) dX10_as_25 rfl rfl ⟨by decide, by decide⟩ (Nat.le_of_ble_eq_true rfl) ⟨Nat.le_refl 0, Nat.le_refl 0⟩ (fun r3 _ => ?_)
      refine at_if_ne (tgt := 34) hC dX10_as_28 rfl (fun _ => ?_) (fun _ => ?_)
      · refine at_aload_n (j := 0) hC rfl rfl dX10_as_34 ?_
        refine gf_X10_67 hC dX10_as_35 ?_
        refine at_iload_n (j := 3) hC rfl rfl dX10_as_38 ?_
        refine at_callVU hC hR lk_X10_174 (c_Cn_look τ p2) dX10_as_39 recX2 rfl rfl ⟨by decide, by decide⟩ (Nat.le_of_ble_eq_true rfl) ⟨Nat.le_refl 0, Nat.le_refl 0⟩ (fun r4 r4s _ => ?_)
        refine at_aload_n (j := 0) hC rfl rfl dX10_as_42 ?_
        refine gf_X10_67 hC dX10_as_43 ?_
        refine at_iload_n (j := 1) hC rfl rfl dX10_as_46 ?_
        refine at_iload_n (j := 2) hC rfl rfl dX10_as_47 ?_
        refine at_callVI hC hR lk_X10_177 (c_Cn_kindOf r4s p0 p1) dX10_as_48 recX2 rfl rfl ⟨by decide, by decide⟩ (Nat.le_of_ble_eq_true rfl) ⟨Nat.le_refl 0, Nat.le_refl 0⟩ (fun r5 r5s _ => ?_)
        exact at_iret (F := eqA ad) (ra := rI) hC dX10_as_51 rfl (Nat.le_refl 0) (Nat.le_refl 0) rfl
      · refine at_bipush hC bi_m2 dX10_as_31 ?_
        exact at_iret (F := eqA ad) (ra := rI) hC dX10_as_33 rfl (Nat.le_refl 0) (Nat.le_refl 0) rfl
    · refine at_iconst hC ic_m1 dX10_as_22 ?_
      exact at_iret (F := eqA ad) (ra := rI) hC dX10_as_23 rfl (Nat.le_refl 0) (Nat.le_refl 0) rfl
theorem dX10_live_0 : decode cX10_live 0 = .ok (.aload_n 0, 1) := by decide +kernel
theorem dX10_live_1 : decode cX10_live 1 = .ok (.getfield 14, 3) := by decide +kernel
theorem dX10_live_4 : decode cX10_live 4 = .ok (.iload_n 1, 1) := by decide +kernel
theorem dX10_live_5 : decode cX10_live 5 = .ok (.invokevirtual 107, 3) := by decide +kernel
theorem dX10_live_8 : decode cX10_live 8 = .ok (.ifCond .eq 25, 3) := by decide +kernel
theorem dX10_live_11 : decode cX10_live 11 = .ok (.aload_n 0, 1) := by decide +kernel
theorem dX10_live_12 : decode cX10_live 12 = .ok (.getfield 14, 3) := by decide +kernel
theorem dX10_live_15 : decode cX10_live 15 = .ok (.iload_n 3, 1) := by decide +kernel
theorem dX10_live_16 : decode cX10_live 16 = .ok (.invokevirtual 171, 3) := by decide +kernel
theorem dX10_live_19 : decode cX10_live 19 = .ok (.ifCond .eq 14, 3) := by decide +kernel
theorem dX10_live_22 : decode cX10_live 22 = .ok (.iload 4, 2) := by decide +kernel
theorem dX10_live_24 : decode cX10_live 24 = .ok (.ifCond .lt 9, 3) := by decide +kernel
theorem dX10_live_27 : decode cX10_live 27 = .ok (.iload 4, 2) := by decide +kernel
theorem dX10_live_29 : decode cX10_live 29 = .ok (.iconst 5, 1) := by decide +kernel
theorem dX10_live_30 : decode cX10_live 30 = .ok (.if_icmp .le 5, 3) := by decide +kernel
theorem dX10_live_33 : decode cX10_live 33 = .ok (.iconst (-1), 1) := by decide +kernel
theorem dX10_live_34 : decode cX10_live 34 = .ok (.ireturn, 1) := by decide +kernel
theorem dX10_live_35 : decode cX10_live 35 = .ok (.iload_n 2, 1) := by decide +kernel
theorem dX10_live_36 : decode cX10_live 36 = .ok (.invokestatic 93, 3) := by decide +kernel
theorem dX10_live_39 : decode cX10_live 39 = .ok (.ifCond .ne 6, 3) := by decide +kernel
theorem dX10_live_42 : decode cX10_live 42 = .ok (.bipush (-2), 2) := by decide +kernel
theorem dX10_live_44 : decode cX10_live 44 = .ok (.ireturn, 1) := by decide +kernel
theorem dX10_live_45 : decode cX10_live 45 = .ok (.aload_n 0, 1) := by decide +kernel
theorem dX10_live_46 : decode cX10_live 46 = .ok (.getfield 23, 3) := by decide +kernel
theorem dX10_live_49 : decode cX10_live 49 = .ok (.iload_n 3, 1) := by decide +kernel
theorem dX10_live_50 : decode cX10_live 50 = .ok (.invokevirtual 119, 3) := by decide +kernel
theorem dX10_live_53 : decode cX10_live 53 = .ok (.iload 4, 2) := by decide +kernel
theorem dX10_live_55 : decode cX10_live 55 = .ok (.tableswitch 117 0 4 #[33, 43, 53, 80, 91], 33) := by decide +kernel
theorem dX10_live_88 : decode cX10_live 88 = .ok (.aload_n 0, 1) := by decide +kernel
theorem dX10_live_89 : decode cX10_live 89 = .ok (.getfield 23, 3) := by decide +kernel
theorem dX10_live_92 : decode cX10_live 92 = .ok (.iload_n 1, 1) := by decide +kernel
theorem dX10_live_93 : decode cX10_live 93 = .ok (.iload_n 2, 1) := by decide +kernel
theorem dX10_live_94 : decode cX10_live 94 = .ok (.invokevirtual 127, 3) := by decide +kernel
theorem dX10_live_97 : decode cX10_live 97 = .ok (.ireturn, 1) := by decide +kernel
theorem dX10_live_98 : decode cX10_live 98 = .ok (.aload_n 0, 1) := by decide +kernel
theorem dX10_live_99 : decode cX10_live 99 = .ok (.getfield 23, 3) := by decide +kernel
theorem dX10_live_102 : decode cX10_live 102 = .ok (.iload_n 1, 1) := by decide +kernel
theorem dX10_live_103 : decode cX10_live 103 = .ok (.iload_n 2, 1) := by decide +kernel
theorem dX10_live_104 : decode cX10_live 104 = .ok (.invokevirtual 147, 3) := by decide +kernel
theorem dX10_live_107 : decode cX10_live 107 = .ok (.ireturn, 1) := by decide +kernel
theorem dX10_live_108 : decode cX10_live 108 = .ok (.aload_n 0, 1) := by decide +kernel
theorem dX10_live_109 : decode cX10_live 109 = .ok (.getfield 23, 3) := by decide +kernel
theorem dX10_live_112 : decode cX10_live 112 = .ok (.iload_n 1, 1) := by decide +kernel
theorem dX10_live_113 : decode cX10_live 113 = .ok (.iload_n 2, 1) := by decide +kernel
theorem dX10_live_114 : decode cX10_live 114 = .ok (.iconst 4, 1) := by decide +kernel
theorem dX10_live_115 : decode cX10_live 115 = .ok (.invokevirtual 180, 3) := by decide +kernel
theorem dX10_live_118 : decode cX10_live 118 = .ok (.ifCond .ge 7, 3) := by decide +kernel
theorem dX10_live_121 : decode cX10_live 121 = .ok (.iconst (-1), 1) := by decide +kernel
theorem dX10_live_122 : decode cX10_live 122 = .ok (.goto 12, 3) := by decide +kernel
theorem dX10_live_125 : decode cX10_live 125 = .ok (.aload_n 0, 1) := by decide +kernel
theorem dX10_live_126 : decode cX10_live 126 = .ok (.getfield 23, 3) := by decide +kernel
theorem dX10_live_129 : decode cX10_live 129 = .ok (.iload_n 1, 1) := by decide +kernel
theorem dX10_live_130 : decode cX10_live 130 = .ok (.iload_n 2, 1) := by decide +kernel
theorem dX10_live_131 : decode cX10_live 131 = .ok (.invokevirtual 184, 3) := by decide +kernel
theorem dX10_live_134 : decode cX10_live 134 = .ok (.ireturn, 1) := by decide +kernel
theorem dX10_live_135 : decode cX10_live 135 = .ok (.aload_n 0, 1) := by decide +kernel
theorem dX10_live_136 : decode cX10_live 136 = .ok (.getfield 23, 3) := by decide +kernel
theorem dX10_live_139 : decode cX10_live 139 = .ok (.iload_n 1, 1) := by decide +kernel
theorem dX10_live_140 : decode cX10_live 140 = .ok (.iload_n 2, 1) := by decide +kernel
theorem dX10_live_141 : decode cX10_live 141 = .ok (.iconst 2, 1) := by decide +kernel
theorem dX10_live_142 : decode cX10_live 142 = .ok (.invokevirtual 187, 3) := by decide +kernel
theorem dX10_live_145 : decode cX10_live 145 = .ok (.ireturn, 1) := by decide +kernel
theorem dX10_live_146 : decode cX10_live 146 = .ok (.aload_n 0, 1) := by decide +kernel
theorem dX10_live_147 : decode cX10_live 147 = .ok (.getfield 23, 3) := by decide +kernel
theorem dX10_live_150 : decode cX10_live 150 = .ok (.iload_n 1, 1) := by decide +kernel
theorem dX10_live_151 : decode cX10_live 151 = .ok (.iload_n 2, 1) := by decide +kernel
theorem dX10_live_152 : decode cX10_live 152 = .ok (.invokevirtual 123, 3) := by decide +kernel
theorem dX10_live_155 : decode cX10_live 155 = .ok (.ifCond .eq 15, 3) := by decide +kernel
theorem dX10_live_158 : decode cX10_live 158 = .ok (.aload_n 0, 1) := by decide +kernel
theorem dX10_live_159 : decode cX10_live 159 = .ok (.getfield 14, 3) := by decide +kernel
theorem dX10_live_162 : decode cX10_live 162 = .ok (.iload_n 1, 1) := by decide +kernel
theorem dX10_live_163 : decode cX10_live 163 = .ok (.iload_n 2, 1) := by decide +kernel
theorem dX10_live_164 : decode cX10_live 164 = .ok (.invokevirtual 190, 3) := by decide +kernel
theorem dX10_live_167 : decode cX10_live 167 = .ok (.goto 4, 3) := by decide +kernel
theorem dX10_live_170 : decode cX10_live 170 = .ok (.iconst (-1), 1) := by decide +kernel
theorem dX10_live_171 : decode cX10_live 171 = .ok (.ireturn, 1) := by decide +kernel
theorem dX10_live_172 : decode cX10_live 172 = .ok (.aload_n 0, 1) := by decide +kernel
theorem dX10_live_173 : decode cX10_live 173 = .ok (.getfield 23, 3) := by decide +kernel
theorem dX10_live_176 : decode cX10_live 176 = .ok (.getfield 193, 3) := by decide +kernel
theorem dX10_live_179 : decode cX10_live 179 = .ok (.iload_n 1, 1) := by decide +kernel
theorem dX10_live_180 : decode cX10_live 180 = .ok (.iaload, 1) := by decide +kernel
theorem dX10_live_181 : decode cX10_live 181 = .ok (.ireturn, 1) := by decide +kernel
set_option maxRecDepth 100000 in
theorem c_W_live (τ : XS) (p0 : Int32) (p1 : Int32) (p2 : Int32) (p3 : Int32) : Ct z (wX z σ) rI eqA yX10_live cX10_live 5 (some .int) 6 0 0 [.ref 36, .int p0, .int p1, .int p2, .int p3] τ (W_live τ p0 p1 p2 p3) := by
  refine Ct.of (by decide) (Nat.le_of_ble_eq_true rfl) (fun ad x hC hR _ => ?_)
  show AT z x 5 (wX z σ) rI (eqA ad) 0 0 0 0 ad 0 [(0, .ref 36), (1, .int p0), (2, .int p1), (3, .int p2), (4, .int p3)] [] τ (W_live τ p0 p1 p2 p3)
  unfold W_live
  refine at_aload_n (j := 0) hC rfl rfl dX10_live_0 ?_
  refine gf_X10_14 hC dX10_live_1 ?_
  refine at_iload_n (j := 1) hC rfl rfl dX10_live_4 ?_
  refine at_callVpI hC hR lk_X10_107 (c_Bk_isPerson τ p0) dX10_live_5 recX1 rfl rfl ⟨by decide, by decide⟩ (Nat.le_of_ble_eq_true rfl) ⟨Nat.le_refl 0, Nat.le_refl 0⟩ (fun r1 _ => ?_)
  refine at_if_eq (tgt := 33) hC dX10_live_8 rfl (fun _ => ?_) (fun _ => ?_)
  · refine at_iconst hC ic_m1 dX10_live_33 ?_
    exact at_iret (F := eqA ad) (ra := rI) hC dX10_live_34 rfl (Nat.le_refl 0) (Nat.le_refl 0) rfl
  · refine at_aload_n (j := 0) hC rfl rfl dX10_live_11 ?_
    refine gf_X10_14 hC dX10_live_12 ?_
    refine at_iload_n (j := 3) hC rfl rfl dX10_live_15 ?_
    refine at_callVpI hC hR lk_X10_171 (c_Bk_isReach τ p2) dX10_live_16 recX1 rfl rfl ⟨by decide, by decide⟩ (Nat.le_of_ble_eq_true rfl) ⟨Nat.le_refl 0, Nat.le_refl 0⟩ (fun r2 _ => ?_)
    refine at_if_eq (tgt := 33) hC dX10_live_19 rfl (fun _ => ?_) (fun _ => ?_)
    · refine at_iconst hC ic_m1 dX10_live_33 ?_
      exact at_iret (F := eqA ad) (ra := rI) hC dX10_live_34 rfl (Nat.le_refl 0) (Nat.le_refl 0) rfl
    · refine at_iload (j := 4) hC rfl dX10_live_22 ?_
      refine at_if_lt (tgt := 33) hC dX10_live_24 rfl (fun _ => ?_) (fun _ => ?_)
      · refine at_iconst hC ic_m1 dX10_live_33 ?_
        exact at_iret (F := eqA ad) (ra := rI) hC dX10_live_34 rfl (Nat.le_refl 0) (Nat.le_refl 0) rfl
      · refine at_iload (j := 4) hC rfl dX10_live_27 ?_
        refine at_iconst hC ic_5 dX10_live_29 ?_
        refine at_icmp_le (tgt := 35) hC dX10_live_30 rfl (fun _ => ?_) (fun _ => ?_)
        · refine at_iload_n (j := 2) hC rfl rfl dX10_live_35 ?_
          refine at_callSpI hC hR lk_X10_93 (c_W_isDay τ p1) dX10_live_36 rfl rfl ⟨by decide, by decide⟩ (Nat.le_of_ble_eq_true rfl) ⟨Nat.le_refl 0, Nat.le_refl 0⟩ (fun r3 _ => ?_)
          refine at_if_ne (tgt := 45) hC dX10_live_39 rfl (fun _ => ?_) (fun _ => ?_)
          · refine at_aload_n (j := 0) hC rfl rfl dX10_live_45 ?_
            refine gf_X10_23 hC dX10_live_46 ?_
            refine at_iload_n (j := 3) hC rfl rfl dX10_live_49 ?_
            refine at_callVU hC hR lk_X10_119 (c_Lv_readBook τ p2) dX10_live_50 recX4 rfl rfl ⟨by decide, by decide⟩ (Nat.le_of_ble_eq_true rfl) ⟨Nat.le_refl 0, Nat.le_refl 0⟩ (fun r4 r4s _ => ?_)
            refine at_iload (j := 4) hC rfl dX10_live_53 ?_
            refine at_sw (off := 33) (tgt := 88) (v := 0) hC 0 dX10_live_55 rfl rfl (by decide) (by decide) swp0 ?_ (fun hp0 => ?_)
            · refine at_aload_n (j := 0) hC rfl rfl dX10_live_88 ?_
              refine gf_X10_23 hC dX10_live_89 ?_
              refine at_iload_n (j := 1) hC rfl rfl dX10_live_92 ?_
              refine at_iload_n (j := 2) hC rfl rfl dX10_live_93 ?_
              refine at_callVpI hC hR lk_X10_127 (c_Lv_wedTo r4s p0 p1) dX10_live_94 recX4 rfl rfl ⟨by decide, by decide⟩ (Nat.le_of_ble_eq_true rfl) ⟨Nat.le_refl 0, Nat.le_refl 0⟩ (fun r5 _ => ?_)
              exact at_iret (F := eqA ad) (ra := rI) hC dX10_live_97 rfl (Nat.le_refl 0) (Nat.le_refl 0) rfl
            refine at_sw (off := 43) (tgt := 98) (v := 1) hC 1 dX10_live_55 rfl rfl (by decide) (by decide) hp0 ?_ (fun hp1 => ?_)
            · refine at_aload_n (j := 0) hC rfl rfl dX10_live_98 ?_
              refine gf_X10_23 hC dX10_live_99 ?_
              refine at_iload_n (j := 1) hC rfl rfl dX10_live_102 ?_
              refine at_iload_n (j := 2) hC rfl rfl dX10_live_103 ?_
              refine at_callVpI hC hR lk_X10_147 (c_Lv_seatOf r4s p0 p1) dX10_live_104 recX4 rfl rfl ⟨by decide, by decide⟩ (Nat.le_of_ble_eq_true rfl) ⟨Nat.le_refl 0, Nat.le_refl 0⟩ (fun r6 _ => ?_)
              exact at_iret (F := eqA ad) (ra := rI) hC dX10_live_107 rfl (Nat.le_refl 0) (Nat.le_refl 0) rfl
            refine at_sw (off := 53) (tgt := 108) (v := 2) hC 2 dX10_live_55 rfl rfl (by decide) (by decide) hp1 ?_ (fun hp2 => ?_)
            · refine at_aload_n (j := 0) hC rfl rfl dX10_live_108 ?_
              refine gf_X10_23 hC dX10_live_109 ?_
              refine at_iload_n (j := 1) hC rfl rfl dX10_live_112 ?_
              refine at_iload_n (j := 2) hC rfl rfl dX10_live_113 ?_
              refine at_iconst hC ic_4 dX10_live_114 ?_
              refine at_callVpI hC hR lk_X10_180 (c_Lv_firstOf r4s p0 p1 4) dX10_live_115 recX4 rfl rfl ⟨by decide, by decide⟩ (Nat.le_of_ble_eq_true rfl) ⟨Nat.le_refl 0, Nat.le_refl 0⟩ (fun r7 _ => ?_)
              refine at_if_ge (tgt := 125) hC dX10_live_118 rfl (fun _ => ?_) (fun _ => ?_)
              · refine at_aload_n (j := 0) hC rfl rfl dX10_live_125 ?_
                refine gf_X10_23 hC dX10_live_126 ?_
                refine at_iload_n (j := 1) hC rfl rfl dX10_live_129 ?_
                refine at_iload_n (j := 2) hC rfl rfl dX10_live_130 ?_
                refine at_callVpI hC hR lk_X10_184 (c_Lv_rateOf r4s p0 p1) dX10_live_131 recX4 rfl rfl ⟨by decide, by decide⟩ (Nat.le_of_ble_eq_true rfl) ⟨Nat.le_refl 0, Nat.le_refl 0⟩ (fun r8 _ => ?_)
                exact at_iret (F := eqA ad) (ra := rI) hC dX10_live_134 rfl (Nat.le_refl 0) (Nat.le_refl 0) rfl
              · refine at_iconst hC ic_m1 dX10_live_121 ?_
                refine at_goto (tgt := 134) hC dX10_live_122 rfl ?_
                exact at_iret (F := eqA ad) (ra := rI) hC dX10_live_134 rfl (Nat.le_refl 0) (Nat.le_refl 0) rfl
            refine at_sw (off := 80) (tgt := 135) (v := 3) hC 3 dX10_live_55 rfl rfl (by decide) (by decide) hp2 ?_ (fun hp3 => ?_)
            · refine at_aload_n (j := 0) hC rfl rfl dX10_live_135 ?_
              refine gf_X10_23 hC dX10_live_136 ?_
              refine at_iload_n (j := 1) hC rfl rfl dX10_live_139 ?_
              refine at_iload_n (j := 2) hC rfl rfl dX10_live_140 ?_
              refine at_iconst hC ic_2 dX10_live_141 ?_
              refine at_callVpI hC hR lk_X10_187 (c_Lv_howMany r4s p0 p1 2) dX10_live_142 recX4 rfl rfl ⟨by decide, by decide⟩ (Nat.le_of_ble_eq_true rfl) ⟨Nat.le_refl 0, Nat.le_refl 0⟩ (fun r9 _ => ?_)
              exact at_iret (F := eqA ad) (ra := rI) hC dX10_live_145 rfl (Nat.le_refl 0) (Nat.le_refl 0) rfl
            refine at_sw (off := 91) (tgt := 146) (v := 4) hC 4 dX10_live_55 rfl rfl (by decide) (by decide) hp3 ?_ (fun hp4 => ?_)
            · refine at_aload_n (j := 0) hC rfl rfl dX10_live_146 ?_
              refine gf_X10_23 hC dX10_live_147 ?_
              refine at_iload_n (j := 1) hC rfl rfl dX10_live_150 ?_
              refine at_iload_n (j := 2) hC rfl rfl dX10_live_151 ?_
              refine at_callVpI hC hR lk_X10_123 (c_Lv_livesOn r4s p0 p1) dX10_live_152 recX4 rfl rfl ⟨by decide, by decide⟩ (Nat.le_of_ble_eq_true rfl) ⟨Nat.le_refl 0, Nat.le_refl 0⟩ (fun r10 _ => ?_)
              refine at_if_eq (tgt := 170) hC dX10_live_155 rfl (fun _ => ?_) (fun _ => ?_)
              · refine at_iconst hC ic_m1 dX10_live_170 ?_
                exact at_iret (F := eqA ad) (ra := rI) hC dX10_live_171 rfl (Nat.le_refl 0) (Nat.le_refl 0) rfl
              · refine at_aload_n (j := 0) hC rfl rfl dX10_live_158 ?_
                refine gf_X10_14 hC dX10_live_159 ?_
                refine at_iload_n (j := 1) hC rfl rfl dX10_live_162 ?_
                refine at_iload_n (j := 2) hC rfl rfl dX10_live_163 ?_
                refine at_callVpI hC hR lk_X10_190 (c_Bk_ageOn r4s p0 p1) dX10_live_164 recX1 rfl rfl ⟨by decide, by decide⟩ (Nat.le_of_ble_eq_true rfl) ⟨Nat.le_refl 0, Nat.le_refl 0⟩ (fun r11 _ => ?_)
                refine at_goto (tgt := 171) hC dX10_live_167 rfl ?_
                exact at_iret (F := eqA ad) (ra := rI) hC dX10_live_171 rfl (Nat.le_refl 0) (Nat.le_refl 0) rfl
            refine at_swd (tgt := 172) hC 5 dX10_live_55 rfl (by decide) hp4 ?_
            refine at_aload_n (j := 0) hC rfl rfl dX10_live_172 ?_
            refine gf_X10_23 hC dX10_live_173 ?_
            refine gf_X10_193 hC dX10_live_176 ?_
            refine at_iload_n (j := 1) hC rfl rfl dX10_live_179 ?_
            refine at_iald hC 50 dX10_live_180 cl_50 (fun v12 => ?_)
            exact at_iret (F := eqA ad) (ra := rI) hC dX10_live_181 rfl (Nat.le_refl 0) (Nat.le_refl 0) rfl
          · refine at_bipush hC bi_m2 dX10_live_42 ?_
            exact at_iret (F := eqA ad) (ra := rI) hC dX10_live_44 rfl (Nat.le_refl 0) (Nat.le_refl 0) rfl
        · refine at_iconst hC ic_m1 dX10_live_33 ?_
          exact at_iret (F := eqA ad) (ra := rI) hC dX10_live_34 rfl (Nat.le_refl 0) (Nat.le_refl 0) rfl
end G
