section G
variable {z : ZZ} {x : XX} {ad : Nat → Nat} {τ : XS}
theorem dX11_in_0 : decode cX11_in 0 = .ok (.iload_n 0, 1) := by decide +kernel
theorem dX11_in_1 : decode cX11_in 1 = .ok (.iload_n 1, 1) := by decide +kernel
theorem dX11_in_2 : decode cX11_in 2 = .ok (.if_icmp .lt 12, 3) := by decide +kernel
theorem dX11_in_5 : decode cX11_in 5 = .ok (.iload_n 0, 1) := by decide +kernel
theorem dX11_in_6 : decode cX11_in 6 = .ok (.iload_n 2, 1) := by decide +kernel
theorem dX11_in_7 : decode cX11_in 7 = .ok (.if_icmp .gt 7, 3) := by decide +kernel
theorem dX11_in_10 : decode cX11_in 10 = .ok (.iconst 1, 1) := by decide +kernel
theorem dX11_in_11 : decode cX11_in 11 = .ok (.goto 4, 3) := by decide +kernel
theorem dX11_in_14 : decode cX11_in 14 = .ok (.iconst 0, 1) := by decide +kernel
theorem dX11_in_15 : decode cX11_in 15 = .ok (.ireturn, 1) := by decide +kernel
set_option maxRecDepth 100000 in
theorem c_M_in (σ : MS) (p0 : Int32) (p1 : Int32) (p2 : Int32) : Ct z (wM z τ) rI eqA yX11_in cX11_in 3 (some .boolean) 1 0 0 [.int p0, .int p1, .int p2] σ ((M_in σ p0 p1 p2).map fun r => (r, σ)) := by
  refine Ct.of (by decide) (Nat.le_of_ble_eq_true rfl) (fun ad x hC hR _ => ?_)
  show AT z x 3 (wM z τ) rI (eqA ad) 0 0 0 0 ad 0 [(0, .int p0), (1, .int p1), (2, .int p2)] [] σ ((M_in σ p0 p1 p2).map fun r => (r, σ))
  unfold M_in
  refine at_iload_n (j := 0) hC rfl rfl dX11_in_0 ?_
  refine at_iload_n (j := 1) hC rfl rfl dX11_in_1 ?_
  refine ap_icmp_lt (tgt := 14) hC dX11_in_2 rfl (fun _ => ?_) (fun _ => ?_)
  · refine at_iconst hC ic_0 dX11_in_14 ?_
    exact at_zret (F := eqA ad) (ra := rI) hC nb0 dX11_in_15 rfl (Nat.le_refl 0) (Nat.le_refl 0) rfl
  · refine at_iload_n (j := 0) hC rfl rfl dX11_in_5 ?_
    refine at_iload_n (j := 2) hC rfl rfl dX11_in_6 ?_
    refine ap_icmp_gt (tgt := 14) hC dX11_in_7 rfl (fun _ => ?_) (fun _ => ?_)
    · refine at_iconst hC ic_0 dX11_in_14 ?_
      exact at_zret (F := eqA ad) (ra := rI) hC nb0 dX11_in_15 rfl (Nat.le_refl 0) (Nat.le_refl 0) rfl
    · refine at_iconst hC ic_1 dX11_in_10 ?_
      refine at_goto (tgt := 15) hC dX11_in_11 rfl ?_
      exact at_zret (F := eqA ad) (ra := rI) hC nb1 dX11_in_15 rfl (Nat.le_refl 0) (Nat.le_refl 0) rfl
theorem dX11_isPerson_0 : decode cX11_isPerson 0 = .ok (.iload_n 1, 1) := by decide +kernel
theorem dX11_isPerson_1 : decode cX11_isPerson 1 = .ok (.iconst 0, 1) := by decide +kernel
theorem dX11_isPerson_2 : decode cX11_isPerson 2 = .ok (.aload_n 0, 1) := by decide +kernel
theorem dX11_isPerson_3 : decode cX11_isPerson 3 = .ok (.getfield 126, 3) := by decide +kernel
theorem dX11_isPerson_6 : decode cX11_isPerson 6 = .ok (.iconst 1, 1) := by decide +kernel
theorem dX11_isPerson_7 : decode cX11_isPerson 7 = .ok (.isub, 1) := by decide +kernel
theorem dX11_isPerson_8 : decode cX11_isPerson 8 = .ok (.invokestatic 129, 3) := by decide +kernel
theorem dX11_isPerson_11 : decode cX11_isPerson 11 = .ok (.ireturn, 1) := by decide +kernel
set_option maxRecDepth 100000 in
theorem c_M_isPerson (σ : MS) (p0 : Int32) : Ct z (wM z τ) rI eqA yX11_isPerson cX11_isPerson 2 (some .boolean) 2 0 0 [.ref 0, .int p0] σ ((M_isPerson σ p0).map fun r => (r, σ)) := by
  refine Ct.of (by decide) (Nat.le_of_ble_eq_true rfl) (fun ad x hC hR _ => ?_)
  show AT z x 2 (wM z τ) rI (eqA ad) 0 0 0 0 ad 0 [(0, .ref 0), (1, .int p0)] [] σ ((M_isPerson σ p0).map fun r => (r, σ))
  unfold M_isPerson
  refine at_iload_n (j := 1) hC rfl rfl dX11_isPerson_0 ?_
  refine at_iconst hC ic_0 dX11_isPerson_1 ?_
  refine at_aload_n (j := 0) hC rfl rfl dX11_isPerson_2 ?_
  refine gf_X11_126 hC dX11_isPerson_3 ?_
  refine at_iconst hC ic_1 dX11_isPerson_6 ?_
  refine at_isub hC dX11_isPerson_7 ?_
  refine ap_callSI hC hR lk_X11_129 (c_M_in σ p0 0 ((σ.1 1) - 1)) dX11_isPerson_8 rfl rfl ⟨by decide, by decide⟩ (Nat.le_of_ble_eq_true rfl) ⟨Nat.le_refl 0, Nat.le_refl 0⟩ (fun r1 _ => ?_)
  refine ap_bz (fun hb => ?_)
  exact at_zret (F := eqA ad) (ra := rI) hC (nbz hb) dX11_isPerson_11 rfl (Nat.le_refl 0) (Nat.le_refl 0) rfl
theorem dX11_isMan_0 : decode cX11_isMan 0 = .ok (.aload_n 0, 1) := by decide +kernel
theorem dX11_isMan_1 : decode cX11_isMan 1 = .ok (.iload_n 1, 1) := by decide +kernel
theorem dX11_isMan_2 : decode cX11_isMan 2 = .ok (.invokevirtual 133, 3) := by decide +kernel
theorem dX11_isMan_5 : decode cX11_isMan 5 = .ok (.ifCond .eq 16, 3) := by decide +kernel
theorem dX11_isMan_8 : decode cX11_isMan 8 = .ok (.aload_n 0, 1) := by decide +kernel
theorem dX11_isMan_9 : decode cX11_isMan 9 = .ok (.getfield 11, 3) := by decide +kernel
theorem dX11_isMan_12 : decode cX11_isMan 12 = .ok (.iload_n 1, 1) := by decide +kernel
theorem dX11_isMan_13 : decode cX11_isMan 13 = .ok (.iaload, 1) := by decide +kernel
theorem dX11_isMan_14 : decode cX11_isMan 14 = .ok (.ifCond .ne 7, 3) := by decide +kernel
theorem dX11_isMan_17 : decode cX11_isMan 17 = .ok (.iconst 1, 1) := by decide +kernel
theorem dX11_isMan_18 : decode cX11_isMan 18 = .ok (.goto 4, 3) := by decide +kernel
theorem dX11_isMan_21 : decode cX11_isMan 21 = .ok (.iconst 0, 1) := by decide +kernel
theorem dX11_isMan_22 : decode cX11_isMan 22 = .ok (.ireturn, 1) := by decide +kernel
set_option maxRecDepth 100000 in
theorem c_M_isMan (σ : MS) (p0 : Int32) : Ct z (wM z τ) rI eqA yX11_isMan cX11_isMan 2 (some .boolean) 3 0 0 [.ref 0, .int p0] σ ((M_isMan σ p0).map fun r => (r, σ)) := by
  refine Ct.of (by decide) (Nat.le_of_ble_eq_true rfl) (fun ad x hC hR _ => ?_)
  show AT z x 2 (wM z τ) rI (eqA ad) 0 0 0 0 ad 0 [(0, .ref 0), (1, .int p0)] [] σ ((M_isMan σ p0).map fun r => (r, σ))
  unfold M_isMan
  refine at_aload_n (j := 0) hC rfl rfl dX11_isMan_0 ?_
  refine at_iload_n (j := 1) hC rfl rfl dX11_isMan_1 ?_
  refine ap_callVI hC hR lk_X11_133 (c_M_isPerson σ p0) dX11_isMan_2 recX11 rfl rfl ⟨by decide, by decide⟩ (Nat.le_of_ble_eq_true rfl) ⟨Nat.le_refl 0, Nat.le_refl 0⟩ (fun r1 _ => ?_)
  refine ap_if_eq (tgt := 21) hC dX11_isMan_5 rfl (fun _ => ?_) (fun _ => ?_)
  · refine at_iconst hC ic_0 dX11_isMan_21 ?_
    exact at_zret (F := eqA ad) (ra := rI) hC nb0 dX11_isMan_22 rfl (Nat.le_refl 0) (Nat.le_refl 0) rfl
  · refine at_aload_n (j := 0) hC rfl rfl dX11_isMan_8 ?_
    refine gf_X11_11 hC dX11_isMan_9 ?_
    refine at_iload_n (j := 1) hC rfl rfl dX11_isMan_12 ?_
    refine ap_iald hC 1 dX11_isMan_13 cl_1 (fun v2 => ?_)
    refine ap_if_ne (tgt := 21) hC dX11_isMan_14 rfl (fun _ => ?_) (fun _ => ?_)
    · refine at_iconst hC ic_0 dX11_isMan_21 ?_
      exact at_zret (F := eqA ad) (ra := rI) hC nb0 dX11_isMan_22 rfl (Nat.le_refl 0) (Nat.le_refl 0) rfl
    · refine at_iconst hC ic_1 dX11_isMan_17 ?_
      refine at_goto (tgt := 22) hC dX11_isMan_18 rfl ?_
      exact at_zret (F := eqA ad) (ra := rI) hC nb1 dX11_isMan_22 rfl (Nat.le_refl 0) (Nat.le_refl 0) rfl
theorem dX11_isDay_0 : decode cX11_isDay 0 = .ok (.iload_n 0, 1) := by decide +kernel
theorem dX11_isDay_1 : decode cX11_isDay 1 = .ok (.iconst 0, 1) := by decide +kernel
theorem dX11_isDay_2 : decode cX11_isDay 2 = .ok (.sipush 9999, 3) := by decide +kernel
theorem dX11_isDay_5 : decode cX11_isDay 5 = .ok (.invokestatic 129, 3) := by decide +kernel
theorem dX11_isDay_8 : decode cX11_isDay 8 = .ok (.ireturn, 1) := by decide +kernel
set_option maxRecDepth 100000 in
theorem c_M_isDay (σ : MS) (p0 : Int32) : Ct z (wM z τ) rI eqA yX11_isDay cX11_isDay 1 (some .boolean) 2 0 0 [.int p0] σ ((M_isDay σ p0).map fun r => (r, σ)) := by
  refine Ct.of (by decide) (Nat.le_of_ble_eq_true rfl) (fun ad x hC hR _ => ?_)
  show AT z x 1 (wM z τ) rI (eqA ad) 0 0 0 0 ad 0 [(0, .int p0)] [] σ ((M_isDay σ p0).map fun r => (r, σ))
  unfold M_isDay
  refine at_iload_n (j := 0) hC rfl rfl dX11_isDay_0 ?_
  refine at_iconst hC ic_0 dX11_isDay_1 ?_
  refine at_sipush hC si_9999 dX11_isDay_2 ?_
  refine ap_callSI hC hR lk_X11_129 (c_M_in σ p0 0 9999) dX11_isDay_5 rfl rfl ⟨by decide, by decide⟩ (Nat.le_of_ble_eq_true rfl) ⟨Nat.le_refl 0, Nat.le_refl 0⟩ (fun r1 _ => ?_)
  refine ap_bz (fun hb => ?_)
  exact at_zret (F := eqA ad) (ra := rI) hC (nbz hb) dX11_isDay_8 rfl (Nat.le_refl 0) (Nat.le_refl 0) rfl
theorem dX11_isYear_0 : decode cX11_isYear 0 = .ok (.iload_n 0, 1) := by decide +kernel
theorem dX11_isYear_1 : decode cX11_isYear 1 = .ok (.iconst 0, 1) := by decide +kernel
theorem dX11_isYear_2 : decode cX11_isYear 2 = .ok (.bipush 99, 2) := by decide +kernel
theorem dX11_isYear_4 : decode cX11_isYear 4 = .ok (.invokestatic 129, 3) := by decide +kernel
theorem dX11_isYear_7 : decode cX11_isYear 7 = .ok (.ireturn, 1) := by decide +kernel
set_option maxRecDepth 100000 in
theorem c_M_isYear (σ : MS) (p0 : Int32) : Ct z (wM z τ) rI eqA yX11_isYear cX11_isYear 1 (some .boolean) 2 0 0 [.int p0] σ ((M_isYear σ p0).map fun r => (r, σ)) := by
  refine Ct.of (by decide) (Nat.le_of_ble_eq_true rfl) (fun ad x hC hR _ => ?_)
  show AT z x 1 (wM z τ) rI (eqA ad) 0 0 0 0 ad 0 [(0, .int p0)] [] σ ((M_isYear σ p0).map fun r => (r, σ))
  unfold M_isYear
  refine at_iload_n (j := 0) hC rfl rfl dX11_isYear_0 ?_
  refine at_iconst hC ic_0 dX11_isYear_1 ?_
  refine at_bipush hC bi_99 dX11_isYear_2 ?_
  refine ap_callSI hC hR lk_X11_129 (c_M_in σ p0 0 99) dX11_isYear_4 rfl rfl ⟨by decide, by decide⟩ (Nat.le_of_ble_eq_true rfl) ⟨Nat.le_refl 0, Nat.le_refl 0⟩ (fun r1 _ => ?_)
  refine ap_bz (fun hb => ?_)
  exact at_zret (F := eqA ad) (ra := rI) hC (nbz hb) dX11_isYear_7 rfl (Nat.le_refl 0) (Nat.le_refl 0) rfl
theorem dX11_isBy_0 : decode cX11_isBy 0 = .ok (.iload_n 1, 1) := by decide +kernel
theorem dX11_isBy_1 : decode cX11_isBy 1 = .ok (.iconst (-1), 1) := by decide +kernel
theorem dX11_isBy_2 : decode cX11_isBy 2 = .ok (.aload_n 0, 1) := by decide +kernel
theorem dX11_isBy_3 : decode cX11_isBy 3 = .ok (.getfield 137, 3) := by decide +kernel
theorem dX11_isBy_6 : decode cX11_isBy 6 = .ok (.invokestatic 129, 3) := by decide +kernel
theorem dX11_isBy_9 : decode cX11_isBy 9 = .ok (.ireturn, 1) := by decide +kernel
set_option maxRecDepth 100000 in
theorem c_M_isBy (σ : MS) (p0 : Int32) : Ct z (wM z τ) rI eqA yX11_isBy cX11_isBy 2 (some .boolean) 2 0 0 [.ref 0, .int p0] σ ((M_isBy σ p0).map fun r => (r, σ)) := by
  refine Ct.of (by decide) (Nat.le_of_ble_eq_true rfl) (fun ad x hC hR _ => ?_)
  show AT z x 2 (wM z τ) rI (eqA ad) 0 0 0 0 ad 0 [(0, .ref 0), (1, .int p0)] [] σ ((M_isBy σ p0).map fun r => (r, σ))
  unfold M_isBy
  refine at_iload_n (j := 1) hC rfl rfl dX11_isBy_0 ?_
  refine at_iconst hC ic_m1 dX11_isBy_1 ?_
  refine at_aload_n (j := 0) hC rfl rfl dX11_isBy_2 ?_
  refine gf_X11_137 hC dX11_isBy_3 ?_
  refine ap_callSI hC hR lk_X11_129 (c_M_in σ p0 (-1) (σ.1 7)) dX11_isBy_6 rfl rfl ⟨by decide, by decide⟩ (Nat.le_of_ble_eq_true rfl) ⟨Nat.le_refl 0, Nat.le_refl 0⟩ (fun r1 _ => ?_)
  refine ap_bz (fun hb => ?_)
  exact at_zret (F := eqA ad) (ra := rI) hC (nbz hb) dX11_isBy_9 rfl (Nat.le_refl 0) (Nat.le_refl 0) rfl
theorem dX11_looks_0 : decode cX11_looks 0 = .ok (.aload_n 0, 1) := by decide +kernel
theorem dX11_looks_1 : decode cX11_looks 1 = .ok (.iload_n 1, 1) := by decide +kernel
theorem dX11_looks_2 : decode cX11_looks 2 = .ok (.iconst (-1), 1) := by decide +kernel
theorem dX11_looks_3 : decode cX11_looks 3 = .ok (.if_icmp .ne 10, 3) := by decide +kernel
theorem dX11_looks_6 : decode cX11_looks 6 = .ok (.aload_n 0, 1) := by decide +kernel
theorem dX11_looks_7 : decode cX11_looks 7 = .ok (.getfield 137, 3) := by decide +kernel
theorem dX11_looks_10 : decode cX11_looks 10 = .ok (.goto 4, 3) := by decide +kernel
theorem dX11_looks_13 : decode cX11_looks 13 = .ok (.iload_n 1, 1) := by decide +kernel
theorem dX11_looks_14 : decode cX11_looks 14 = .ok (.putfield 140, 3) := by decide +kernel
theorem dX11_looks_17 : decode cX11_looks 17 = .ok (.iconst 0, 1) := by decide +kernel
theorem dX11_looks_18 : decode cX11_looks 18 = .ok (.istore_n 2, 1) := by decide +kernel
theorem dX11_looks_19 : decode cX11_looks 19 = .ok (.iload_n 2, 1) := by decide +kernel
theorem dX11_looks_20 : decode cX11_looks 20 = .ok (.aload_n 0, 1) := by decide +kernel
theorem dX11_looks_21 : decode cX11_looks 21 = .ok (.getfield 140, 3) := by decide +kernel
theorem dX11_looks_24 : decode cX11_looks 24 = .ok (.if_icmp .ge 31, 3) := by decide +kernel
theorem dX11_looks_27 : decode cX11_looks 27 = .ok (.aload_n 0, 1) := by decide +kernel
theorem dX11_looks_28 : decode cX11_looks 28 = .ok (.getfield 111, 3) := by decide +kernel
theorem dX11_looks_31 : decode cX11_looks 31 = .ok (.iload_n 2, 1) := by decide +kernel
theorem dX11_looks_32 : decode cX11_looks 32 = .ok (.aload_n 0, 1) := by decide +kernel
theorem dX11_looks_33 : decode cX11_looks 33 = .ok (.getfield 24, 3) := by decide +kernel
theorem dX11_looks_36 : decode cX11_looks 36 = .ok (.iload_n 2, 1) := by decide +kernel
theorem dX11_looks_37 : decode cX11_looks 37 = .ok (.iaload, 1) := by decide +kernel
theorem dX11_looks_38 : decode cX11_looks 38 = .ok (.bipush 7, 2) := by decide +kernel
theorem dX11_looks_40 : decode cX11_looks 40 = .ok (.if_icmp .eq 7, 3) := by decide +kernel
theorem dX11_looks_43 : decode cX11_looks 43 = .ok (.iconst 1, 1) := by decide +kernel
theorem dX11_looks_44 : decode cX11_looks 44 = .ok (.goto 4, 3) := by decide +kernel
theorem dX11_looks_47 : decode cX11_looks 47 = .ok (.iconst 0, 1) := by decide +kernel
theorem dX11_looks_48 : decode cX11_looks 48 = .ok (.bastore, 1) := by decide +kernel
theorem dX11_looks_49 : decode cX11_looks 49 = .ok (.iinc 2 1, 3) := by decide +kernel
theorem dX11_looks_52 : decode cX11_looks 52 = .ok (.goto (-33), 3) := by decide +kernel
theorem dX11_looks_55 : decode cX11_looks 55 = .ok (.iconst 0, 1) := by decide +kernel
theorem dX11_looks_56 : decode cX11_looks 56 = .ok (.istore_n 2, 1) := by decide +kernel
theorem dX11_looks_57 : decode cX11_looks 57 = .ok (.iload_n 2, 1) := by decide +kernel
theorem dX11_looks_58 : decode cX11_looks 58 = .ok (.aload_n 0, 1) := by decide +kernel
theorem dX11_looks_59 : decode cX11_looks 59 = .ok (.getfield 140, 3) := by decide +kernel
theorem dX11_looks_62 : decode cX11_looks 62 = .ok (.if_icmp .ge 32, 3) := by decide +kernel
theorem dX11_looks_65 : decode cX11_looks 65 = .ok (.aload_n 0, 1) := by decide +kernel
theorem dX11_looks_66 : decode cX11_looks 66 = .ok (.getfield 24, 3) := by decide +kernel
theorem dX11_looks_69 : decode cX11_looks 69 = .ok (.iload_n 2, 1) := by decide +kernel
theorem dX11_looks_70 : decode cX11_looks 70 = .ok (.iaload, 1) := by decide +kernel
theorem dX11_looks_71 : decode cX11_looks 71 = .ok (.bipush 7, 2) := by decide +kernel
theorem dX11_looks_73 : decode cX11_looks 73 = .ok (.if_icmp .ne 15, 3) := by decide +kernel
theorem dX11_looks_76 : decode cX11_looks 76 = .ok (.aload_n 0, 1) := by decide +kernel
theorem dX11_looks_77 : decode cX11_looks 77 = .ok (.getfield 111, 3) := by decide +kernel
theorem dX11_looks_80 : decode cX11_looks 80 = .ok (.aload_n 0, 1) := by decide +kernel
theorem dX11_looks_81 : decode cX11_looks 81 = .ok (.getfield 27, 3) := by decide +kernel
theorem dX11_looks_84 : decode cX11_looks 84 = .ok (.iload_n 2, 1) := by decide +kernel
theorem dX11_looks_85 : decode cX11_looks 85 = .ok (.iaload, 1) := by decide +kernel
theorem dX11_looks_86 : decode cX11_looks 86 = .ok (.iconst 0, 1) := by decide +kernel
theorem dX11_looks_87 : decode cX11_looks 87 = .ok (.bastore, 1) := by decide +kernel
theorem dX11_looks_88 : decode cX11_looks 88 = .ok (.iinc 2 1, 3) := by decide +kernel
theorem dX11_looks_91 : decode cX11_looks 91 = .ok (.goto (-34), 3) := by decide +kernel
theorem dX11_looks_94 : decode cX11_looks 94 = .ok (.iconst 0, 1) := by decide +kernel
theorem dX11_looks_95 : decode cX11_looks 95 = .ok (.istore_n 2, 1) := by decide +kernel
theorem dX11_looks_96 : decode cX11_looks 96 = .ok (.iload_n 2, 1) := by decide +kernel
theorem dX11_looks_97 : decode cX11_looks 97 = .ok (.aload_n 0, 1) := by decide +kernel
theorem dX11_looks_98 : decode cX11_looks 98 = .ok (.getfield 126, 3) := by decide +kernel
theorem dX11_looks_101 : decode cX11_looks 101 = .ok (.if_icmp .ge 18, 3) := by decide +kernel
theorem dX11_looks_104 : decode cX11_looks 104 = .ok (.aload_n 0, 1) := by decide +kernel
theorem dX11_looks_105 : decode cX11_looks 105 = .ok (.getfield 114, 3) := by decide +kernel
theorem dX11_looks_108 : decode cX11_looks 108 = .ok (.iload_n 2, 1) := by decide +kernel
theorem dX11_looks_109 : decode cX11_looks 109 = .ok (.sipush 10000, 3) := by decide +kernel
theorem dX11_looks_112 : decode cX11_looks 112 = .ok (.iastore, 1) := by decide +kernel
theorem dX11_looks_113 : decode cX11_looks 113 = .ok (.iinc 2 1, 3) := by decide +kernel
theorem dX11_looks_116 : decode cX11_looks 116 = .ok (.goto (-20), 3) := by decide +kernel
theorem dX11_looks_119 : decode cX11_looks 119 = .ok (.iconst 0, 1) := by decide +kernel
theorem dX11_looks_120 : decode cX11_looks 120 = .ok (.istore_n 2, 1) := by decide +kernel
theorem dX11_looks_121 : decode cX11_looks 121 = .ok (.iload_n 2, 1) := by decide +kernel
theorem dX11_looks_122 : decode cX11_looks 122 = .ok (.aload_n 0, 1) := by decide +kernel
theorem dX11_looks_123 : decode cX11_looks 123 = .ok (.getfield 140, 3) := by decide +kernel
theorem dX11_looks_126 : decode cX11_looks 126 = .ok (.if_icmp .ge 44, 3) := by decide +kernel
theorem dX11_looks_129 : decode cX11_looks 129 = .ok (.aload_n 0, 1) := by decide +kernel
theorem dX11_looks_130 : decode cX11_looks 130 = .ok (.getfield 111, 3) := by decide +kernel
theorem dX11_looks_133 : decode cX11_looks 133 = .ok (.iload_n 2, 1) := by decide +kernel
theorem dX11_looks_134 : decode cX11_looks 134 = .ok (.baload, 1) := by decide +kernel
theorem dX11_looks_135 : decode cX11_looks 135 = .ok (.ifCond .eq 29, 3) := by decide +kernel
theorem dX11_looks_138 : decode cX11_looks 138 = .ok (.aload_n 0, 1) := by decide +kernel
theorem dX11_looks_139 : decode cX11_looks 139 = .ok (.getfield 24, 3) := by decide +kernel
theorem dX11_looks_142 : decode cX11_looks 142 = .ok (.iload_n 2, 1) := by decide +kernel
theorem dX11_looks_143 : decode cX11_looks 143 = .ok (.iaload, 1) := by decide +kernel
theorem dX11_looks_144 : decode cX11_looks 144 = .ok (.ifCond .ne 20, 3) := by decide +kernel
theorem dX11_looks_147 : decode cX11_looks 147 = .ok (.aload_n 0, 1) := by decide +kernel
theorem dX11_looks_148 : decode cX11_looks 148 = .ok (.getfield 114, 3) := by decide +kernel
theorem dX11_looks_151 : decode cX11_looks 151 = .ok (.aload_n 0, 1) := by decide +kernel
theorem dX11_looks_152 : decode cX11_looks 152 = .ok (.getfield 27, 3) := by decide +kernel
theorem dX11_looks_155 : decode cX11_looks 155 = .ok (.iload_n 2, 1) := by decide +kernel
theorem dX11_looks_156 : decode cX11_looks 156 = .ok (.iaload, 1) := by decide +kernel
theorem dX11_looks_157 : decode cX11_looks 157 = .ok (.aload_n 0, 1) := by decide +kernel
theorem dX11_looks_158 : decode cX11_looks 158 = .ok (.getfield 33, 3) := by decide +kernel
theorem dX11_looks_161 : decode cX11_looks 161 = .ok (.iload_n 2, 1) := by decide +kernel
theorem dX11_looks_162 : decode cX11_looks 162 = .ok (.iaload, 1) := by decide +kernel
theorem dX11_looks_163 : decode cX11_looks 163 = .ok (.iastore, 1) := by decide +kernel
theorem dX11_looks_164 : decode cX11_looks 164 = .ok (.iinc 2 1, 3) := by decide +kernel
theorem dX11_looks_167 : decode cX11_looks 167 = .ok (.goto (-46), 3) := by decide +kernel
theorem dX11_looks_170 : decode cX11_looks 170 = .ok (.return_, 1) := by decide +kernel
set_option maxRecDepth 100000 in
theorem t_M_looks_J164 (hC : CX z ad x cX11_looks RX11 3 none) (hR : x.2.2.1 = rmk 1 0 0) (k_121 : MS → Int32 → Option (Unit × MS)) (hk_121 : ∀ (σ : MS) (a2 : Int32), AT z x 3 (wM z τ) rU (eqA ad) 0 0 0 0 ad 121 [(0, .ref 0), (2, .int a2)] [] σ (k_121 σ a2)) (σ : MS) (a2 : Int32) : AT z x 3 (wM z τ) rU (eqA ad) 0 0 0 0 ad 164 [(0, .ref 0), (2, .int a2)] [] σ (M_looks_J164 k_121 σ a2) := by
  unfold M_looks_J164
  refine at_iinc (j := 1) (v := a2 + 1) (lv' := [(2, .int (a2 + 1)), (0, .ref 0)]) hC dX11_looks_164 rfl rfl (by decide) rfl ?_
  refine at_goto (tgt := 121) hC dX11_looks_167 rfl ?_
  refine at_drop (lv' := [(0, .ref 0), (2, .int (a2 + 1))]) [1, 0] rfl ?_
  exact hk_121 σ (a2 + 1)
set_option maxRecDepth 100000 in
theorem t_M_looks_L121 (hC : CX z ad x cX11_looks RX11 3 none) (hR : x.2.2.1 = rmk 1 0 0) (n : Nat) (σ : MS) (a2 : Int32) : AT z x 3 (wM z τ) rU (eqA ad) 0 0 0 0 ad 121 [(0, .ref 0), (2, .int a2)] [] σ (M_looks_L121 n σ a2) := by
  revert σ a2
  show ∀ (σ : MS) (a2 : Int32), AT z x 3 (wM z τ) rU (eqA ad) 0 0 0 0 ad 121 [(0, .ref 0), (2, .int a2)] [] σ (M_looks_L121_r n σ a2)
  induction n with
  | zero => intro σ a2; exact at_none
  | succ n hk_121 =>
    intro σ a2
    unfold M_looks_L121_r
    refine at_iload_n (j := 1) hC rfl rfl dX11_looks_121 ?_
    refine at_aload_n (j := 0) hC rfl rfl dX11_looks_122 ?_
    refine gf_X11_140 hC dX11_looks_123 ?_
    refine at_icmp_ge (tgt := 170) hC dX11_looks_126 rfl (fun _ => ?_) (fun _ => ?_)
    · exact at_vret (F := eqA ad) (ra := rU) hC dX11_looks_170 rfl (Nat.le_refl 0) (Nat.le_refl 0) rfl
    · refine at_aload_n (j := 0) hC rfl rfl dX11_looks_129 ?_
      refine gf_X11_111 hC dX11_looks_130 ?_
      refine at_iload_n (j := 1) hC rfl rfl dX11_looks_133 ?_
      refine at_zald hC 32 dX11_looks_134 cl_32 (fun v1 => ?_)
      refine at_if_eq (tgt := 164) hC dX11_looks_135 rfl (fun _ => ?_) (fun _ => ?_)
      · exact t_M_looks_J164 hC hR (M_looks_L121_r n) hk_121 σ a2
      · refine at_aload_n (j := 0) hC rfl rfl dX11_looks_138 ?_
        refine gf_X11_24 hC dX11_looks_139 ?_
        refine at_iload_n (j := 1) hC rfl rfl dX11_looks_142 ?_
        refine at_iald hC 5 dX11_looks_143 cl_5 (fun v2 => ?_)
        refine at_if_ne (tgt := 164) hC dX11_looks_144 rfl (fun _ => ?_) (fun _ => ?_)
        · exact t_M_looks_J164 hC hR (M_looks_L121_r n) hk_121 σ a2
        · refine at_aload_n (j := 0) hC rfl rfl dX11_looks_147 ?_
          refine gf_X11_114 hC dX11_looks_148 ?_
          refine at_aload_n (j := 0) hC rfl rfl dX11_looks_151 ?_
          refine gf_X11_27 hC dX11_looks_152 ?_
          refine at_iload_n (j := 1) hC rfl rfl dX11_looks_155 ?_
          refine at_iald hC 6 dX11_looks_156 cl_6 (fun v3 => ?_)
          refine at_aload_n (j := 0) hC rfl rfl dX11_looks_157 ?_
          refine gf_X11_33 hC dX11_looks_158 ?_
          refine at_iload_n (j := 1) hC rfl rfl dX11_looks_161 ?_
          refine at_iald hC 8 dX11_looks_162 cl_8 (fun v4 => ?_)
          refine at_iast hC 33 dX11_looks_163 cl_33 st_33 ?_
          exact t_M_looks_J164 hC hR (M_looks_L121_r n) hk_121 (sA σ 44 (upd (σ.2.1 44) v3.toNatClampNeg v4)) a2
set_option maxRecDepth 100000 in
theorem t_M_looks_L96 (hC : CX z ad x cX11_looks RX11 3 none) (hR : x.2.2.1 = rmk 1 0 0) (n : Nat) (σ : MS) (a2 : Int32) : AT z x 3 (wM z τ) rU (eqA ad) 0 0 0 0 ad 96 [(0, .ref 0), (2, .int a2)] [] σ (M_looks_L96 n σ a2) := by
  revert σ a2
  show ∀ (σ : MS) (a2 : Int32), AT z x 3 (wM z τ) rU (eqA ad) 0 0 0 0 ad 96 [(0, .ref 0), (2, .int a2)] [] σ (M_looks_L96_r n σ a2)
  induction n with
  | zero => intro σ a2; exact at_none
  | succ n hk_96 =>
    intro σ a2
    unfold M_looks_L96_r
    refine at_iload_n (j := 1) hC rfl rfl dX11_looks_96 ?_
    refine at_aload_n (j := 0) hC rfl rfl dX11_looks_97 ?_
    refine gf_X11_126 hC dX11_looks_98 ?_
    refine at_icmp_ge (tgt := 119) hC dX11_looks_101 rfl (fun _ => ?_) (fun _ => ?_)
    · refine at_iconst hC ic_0 dX11_looks_119 ?_
      refine at_istore_n (lv' := [(2, .int 0), (0, .ref 0)]) hC rfl dX11_looks_120 (by decide) rfl ?_
      refine at_drop (lv' := [(0, .ref 0), (2, .int 0)]) [1, 0] rfl ?_
      exact t_M_looks_L121 hC hR 100000 σ 0
    · refine at_aload_n (j := 0) hC rfl rfl dX11_looks_104 ?_
      refine gf_X11_114 hC dX11_looks_105 ?_
      refine at_iload_n (j := 1) hC rfl rfl dX11_looks_108 ?_
      refine at_sipush hC si_10000 dX11_looks_109 ?_
      refine at_iast hC 33 dX11_looks_112 cl_33 st_33 ?_
      refine at_iinc (j := 1) (v := a2 + 1) (lv' := [(2, .int (a2 + 1)), (0, .ref 0)]) hC dX11_looks_113 rfl rfl (by decide) rfl ?_
      refine at_goto (tgt := 96) hC dX11_looks_116 rfl ?_
      refine at_drop (lv' := [(0, .ref 0), (2, .int (a2 + 1))]) [1, 0] rfl ?_
      exact hk_96 (sA σ 44 (upd (σ.2.1 44) a2.toNatClampNeg 10000)) (a2 + 1)
set_option maxRecDepth 100000 in
theorem t_M_looks_J88 (hC : CX z ad x cX11_looks RX11 3 none) (hR : x.2.2.1 = rmk 1 0 0) (k_57 : MS → Int32 → Option (Unit × MS)) (hk_57 : ∀ (σ : MS) (a2 : Int32), AT z x 3 (wM z τ) rU (eqA ad) 0 0 0 0 ad 57 [(0, .ref 0), (2, .int a2)] [] σ (k_57 σ a2)) (σ : MS) (a2 : Int32) : AT z x 3 (wM z τ) rU (eqA ad) 0 0 0 0 ad 88 [(0, .ref 0), (2, .int a2)] [] σ (M_looks_J88 k_57 σ a2) := by
  unfold M_looks_J88
  refine at_iinc (j := 1) (v := a2 + 1) (lv' := [(2, .int (a2 + 1)), (0, .ref 0)]) hC dX11_looks_88 rfl rfl (by decide) rfl ?_
  refine at_goto (tgt := 57) hC dX11_looks_91 rfl ?_
  refine at_drop (lv' := [(0, .ref 0), (2, .int (a2 + 1))]) [1, 0] rfl ?_
  exact hk_57 σ (a2 + 1)
set_option maxRecDepth 100000 in
theorem t_M_looks_L57 (hC : CX z ad x cX11_looks RX11 3 none) (hR : x.2.2.1 = rmk 1 0 0) (n : Nat) (σ : MS) (a2 : Int32) : AT z x 3 (wM z τ) rU (eqA ad) 0 0 0 0 ad 57 [(0, .ref 0), (2, .int a2)] [] σ (M_looks_L57 n σ a2) := by
  revert σ a2
  show ∀ (σ : MS) (a2 : Int32), AT z x 3 (wM z τ) rU (eqA ad) 0 0 0 0 ad 57 [(0, .ref 0), (2, .int a2)] [] σ (M_looks_L57_r n σ a2)
  induction n with
  | zero => intro σ a2; exact at_none
  | succ n hk_57 =>
    intro σ a2
    unfold M_looks_L57_r
    refine at_iload_n (j := 1) hC rfl rfl dX11_looks_57 ?_
    refine at_aload_n (j := 0) hC rfl rfl dX11_looks_58 ?_
    refine gf_X11_140 hC dX11_looks_59 ?_
    refine at_icmp_ge (tgt := 94) hC dX11_looks_62 rfl (fun _ => ?_) (fun _ => ?_)
    · refine at_iconst hC ic_0 dX11_looks_94 ?_
      refine at_istore_n (lv' := [(2, .int 0), (0, .ref 0)]) hC rfl dX11_looks_95 (by decide) rfl ?_
      refine at_drop (lv' := [(0, .ref 0), (2, .int 0)]) [1, 0] rfl ?_
      exact t_M_looks_L96 hC hR 100000 σ 0
    · refine at_aload_n (j := 0) hC rfl rfl dX11_looks_65 ?_
      refine gf_X11_24 hC dX11_looks_66 ?_
      refine at_iload_n (j := 1) hC rfl rfl dX11_looks_69 ?_
      refine at_iald hC 5 dX11_looks_70 cl_5 (fun v5 => ?_)
      refine at_bipush hC bi_7 dX11_looks_71 ?_
      refine at_icmp_ne (tgt := 88) hC dX11_looks_73 rfl (fun _ => ?_) (fun _ => ?_)
      · exact t_M_looks_J88 hC hR (M_looks_L57_r n) hk_57 σ a2
      · refine at_aload_n (j := 0) hC rfl rfl dX11_looks_76 ?_
        refine gf_X11_111 hC dX11_looks_77 ?_
        refine at_aload_n (j := 0) hC rfl rfl dX11_looks_80 ?_
        refine gf_X11_27 hC dX11_looks_81 ?_
        refine at_iload_n (j := 1) hC rfl rfl dX11_looks_84 ?_
        refine at_iald hC 6 dX11_looks_85 cl_6 (fun v6 => ?_)
        refine at_iconst hC ic_0 dX11_looks_86 ?_
        refine at_zast hC 32 dX11_looks_87 cl_32 st_32 ?_
        exact t_M_looks_J88 hC hR (M_looks_L57_r n) hk_57 (sA σ 43 (upd (σ.2.1 43) v6.toNatClampNeg (vp_nar .boolean 0))) a2
set_option maxRecDepth 100000 in
theorem t_M_looks_J48 (hC : CX z ad x cX11_looks RX11 3 none) (hR : x.2.2.1 = rmk 1 0 0) (k_19 : MS → Int32 → Option (Unit × MS)) (hk_19 : ∀ (σ : MS) (a2 : Int32), AT z x 3 (wM z τ) rU (eqA ad) 0 0 0 0 ad 19 [(0, .ref 0), (2, .int a2)] [] σ (k_19 σ a2)) (σ : MS) (a2 : Int32) (s0 : Int32) (s1 : Int32) : AT z x 3 (wM z τ) rU (eqA ad) 0 0 0 0 ad 48 [(0, .ref 0), (2, .int a2)] [.int s0, .int s1, .ref 32] σ (M_looks_J48 k_19 σ a2 s0 s1) := by
  unfold M_looks_J48
  refine at_zast hC 32 dX11_looks_48 cl_32 st_32 ?_
  refine at_iinc (j := 1) (v := a2 + 1) (lv' := [(2, .int (a2 + 1)), (0, .ref 0)]) hC dX11_looks_49 rfl rfl (by decide) rfl ?_
  refine at_goto (tgt := 19) hC dX11_looks_52 rfl ?_
  refine at_drop (lv' := [(0, .ref 0), (2, .int (a2 + 1))]) [1, 0] rfl ?_
  exact hk_19 (sA σ 43 (upd (σ.2.1 43) s1.toNatClampNeg (vp_nar .boolean s0))) (a2 + 1)
set_option maxRecDepth 100000 in
theorem t_M_looks_L19 (hC : CX z ad x cX11_looks RX11 3 none) (hR : x.2.2.1 = rmk 1 0 0) (n : Nat) (σ : MS) (a2 : Int32) : AT z x 3 (wM z τ) rU (eqA ad) 0 0 0 0 ad 19 [(0, .ref 0), (2, .int a2)] [] σ (M_looks_L19 n σ a2) := by
  revert σ a2
  show ∀ (σ : MS) (a2 : Int32), AT z x 3 (wM z τ) rU (eqA ad) 0 0 0 0 ad 19 [(0, .ref 0), (2, .int a2)] [] σ (M_looks_L19_r n σ a2)
  induction n with
  | zero => intro σ a2; exact at_none
  | succ n hk_19 =>
    intro σ a2
    unfold M_looks_L19_r
    refine at_iload_n (j := 1) hC rfl rfl dX11_looks_19 ?_
    refine at_aload_n (j := 0) hC rfl rfl dX11_looks_20 ?_
    refine gf_X11_140 hC dX11_looks_21 ?_
    refine at_icmp_ge (tgt := 55) hC dX11_looks_24 rfl (fun _ => ?_) (fun _ => ?_)
    · refine at_iconst hC ic_0 dX11_looks_55 ?_
      refine at_istore_n (lv' := [(2, .int 0), (0, .ref 0)]) hC rfl dX11_looks_56 (by decide) rfl ?_
      refine at_drop (lv' := [(0, .ref 0), (2, .int 0)]) [1, 0] rfl ?_
      exact t_M_looks_L57 hC hR 100000 σ 0
    · refine at_aload_n (j := 0) hC rfl rfl dX11_looks_27 ?_
      refine gf_X11_111 hC dX11_looks_28 ?_
      refine at_iload_n (j := 1) hC rfl rfl dX11_looks_31 ?_
      refine at_aload_n (j := 0) hC rfl rfl dX11_looks_32 ?_
      refine gf_X11_24 hC dX11_looks_33 ?_
      refine at_iload_n (j := 1) hC rfl rfl dX11_looks_36 ?_
      refine at_iald hC 5 dX11_looks_37 cl_5 (fun v7 => ?_)
      refine at_bipush hC bi_7 dX11_looks_38 ?_
      refine at_icmp_eq (tgt := 47) hC dX11_looks_40 rfl (fun _ => ?_) (fun _ => ?_)
      · refine at_iconst hC ic_0 dX11_looks_47 ?_
        exact t_M_looks_J48 hC hR (M_looks_L19_r n) hk_19 σ a2 0 a2
      · refine at_iconst hC ic_1 dX11_looks_43 ?_
        refine at_goto (tgt := 48) hC dX11_looks_44 rfl ?_
        exact t_M_looks_J48 hC hR (M_looks_L19_r n) hk_19 σ a2 1 a2
set_option maxRecDepth 100000 in
theorem t_M_looks_J14 (hC : CX z ad x cX11_looks RX11 3 none) (hR : x.2.2.1 = rmk 1 0 0) (σ : MS) (s0 : Int32) : AT z x 3 (wM z τ) rU (eqA ad) 0 0 0 0 ad 14 [(0, .ref 0)] [.int s0, .ref 0] σ (M_looks_J14 σ s0) := by
  unfold M_looks_J14
  refine pf_X11_140 hC dX11_looks_14 ?_
  refine at_iconst hC ic_0 dX11_looks_17 ?_
  refine at_istore_n (lv' := [(2, .int 0), (0, .ref 0)]) hC rfl dX11_looks_18 (by decide) rfl ?_
  refine at_drop (lv' := [(0, .ref 0), (2, .int 0)]) [1, 0] rfl ?_
  exact t_M_looks_L19 hC hR 100000 (sI σ 45 s0) 0
set_option maxRecDepth 100000 in
theorem c_M_looks (σ : MS) (p0 : Int32) : Ct z (wM z τ) rU eqA yX11_looks cX11_looks 3 none 1 0 0 [.ref 0, .int p0] σ (M_looks σ p0) := by
  refine Ct.of (by decide) (Nat.le_of_ble_eq_true rfl) (fun ad x hC hR _ => ?_)
  show AT z x 3 (wM z τ) rU (eqA ad) 0 0 0 0 ad 0 [(0, .ref 0), (1, .int p0)] [] σ (M_looks σ p0)
  unfold M_looks
  refine at_aload_n (j := 0) hC rfl rfl dX11_looks_0 ?_
  refine at_iload_n (j := 1) hC rfl rfl dX11_looks_1 ?_
  refine at_iconst hC ic_m1 dX11_looks_2 ?_
  refine at_icmp_ne (tgt := 13) hC dX11_looks_3 rfl (fun _ => ?_) (fun _ => ?_)
  · refine at_iload_n (j := 1) hC rfl rfl dX11_looks_13 ?_
    refine at_drop (lv' := [(0, .ref 0)]) [0] rfl ?_
    exact t_M_looks_J14 hC hR σ p0
  · refine at_aload_n (j := 0) hC rfl rfl dX11_looks_6 ?_
    refine gf_X11_137 hC dX11_looks_7 ?_
    refine at_goto (tgt := 14) hC dX11_looks_10 rfl ?_
    refine at_drop (lv' := [(0, .ref 0)]) [0] rfl ?_
    exact t_M_looks_J14 hC hR σ (σ.1 7)
theorem dX11_lives_0 : decode cX11_lives 0 = .ok (.iload_n 2, 1) := by decide +kernel
theorem dX11_lives_1 : decode cX11_lives 1 = .ok (.aload_n 0, 1) := by decide +kernel
theorem dX11_lives_2 : decode cX11_lives 2 = .ok (.getfield 15, 3) := by decide +kernel
theorem dX11_lives_5 : decode cX11_lives 5 = .ok (.iload_n 1, 1) := by decide +kernel
theorem dX11_lives_6 : decode cX11_lives 6 = .ok (.iaload, 1) := by decide +kernel
theorem dX11_lives_7 : decode cX11_lives 7 = .ok (.if_icmp .lt 17, 3) := by decide +kernel
theorem dX11_lives_10 : decode cX11_lives 10 = .ok (.iload_n 2, 1) := by decide +kernel
theorem dX11_lives_11 : decode cX11_lives 11 = .ok (.aload_n 0, 1) := by decide +kernel
theorem dX11_lives_12 : decode cX11_lives 12 = .ok (.getfield 114, 3) := by decide +kernel
theorem dX11_lives_15 : decode cX11_lives 15 = .ok (.iload_n 1, 1) := by decide +kernel
theorem dX11_lives_16 : decode cX11_lives 16 = .ok (.iaload, 1) := by decide +kernel
theorem dX11_lives_17 : decode cX11_lives 17 = .ok (.if_icmp .ge 7, 3) := by decide +kernel
theorem dX11_lives_20 : decode cX11_lives 20 = .ok (.iconst 1, 1) := by decide +kernel
theorem dX11_lives_21 : decode cX11_lives 21 = .ok (.goto 4, 3) := by decide +kernel
theorem dX11_lives_24 : decode cX11_lives 24 = .ok (.iconst 0, 1) := by decide +kernel
theorem dX11_lives_25 : decode cX11_lives 25 = .ok (.ireturn, 1) := by decide +kernel
set_option maxRecDepth 100000 in
theorem c_M_lives (σ : MS) (p0 : Int32) (p1 : Int32) : Ct z (wM z τ) rI eqA yX11_lives cX11_lives 3 (some .boolean) 1 0 0 [.ref 0, .int p0, .int p1] σ ((M_lives σ p0 p1).map fun r => (r, σ)) := by
  refine Ct.of (by decide) (Nat.le_of_ble_eq_true rfl) (fun ad x hC hR _ => ?_)
  show AT z x 3 (wM z τ) rI (eqA ad) 0 0 0 0 ad 0 [(0, .ref 0), (1, .int p0), (2, .int p1)] [] σ ((M_lives σ p0 p1).map fun r => (r, σ))
  unfold M_lives
  refine at_iload_n (j := 2) hC rfl rfl dX11_lives_0 ?_
  refine at_aload_n (j := 0) hC rfl rfl dX11_lives_1 ?_
  refine gf_X11_15 hC dX11_lives_2 ?_
  refine at_iload_n (j := 1) hC rfl rfl dX11_lives_5 ?_
  refine ap_iald hC 2 dX11_lives_6 cl_2 (fun v1 => ?_)
  refine ap_icmp_lt (tgt := 24) hC dX11_lives_7 rfl (fun _ => ?_) (fun _ => ?_)
  · refine at_iconst hC ic_0 dX11_lives_24 ?_
    exact at_zret (F := eqA ad) (ra := rI) hC nb0 dX11_lives_25 rfl (Nat.le_refl 0) (Nat.le_refl 0) rfl
  · refine at_iload_n (j := 2) hC rfl rfl dX11_lives_10 ?_
    refine at_aload_n (j := 0) hC rfl rfl dX11_lives_11 ?_
    refine gf_X11_114 hC dX11_lives_12 ?_
    refine at_iload_n (j := 1) hC rfl rfl dX11_lives_15 ?_
    refine ap_iald hC 33 dX11_lives_16 cl_33 (fun v2 => ?_)
    refine ap_icmp_ge (tgt := 24) hC dX11_lives_17 rfl (fun _ => ?_) (fun _ => ?_)
    · refine at_iconst hC ic_0 dX11_lives_24 ?_
      exact at_zret (F := eqA ad) (ra := rI) hC nb0 dX11_lives_25 rfl (Nat.le_refl 0) (Nat.le_refl 0) rfl
    · refine at_iconst hC ic_1 dX11_lives_20 ?_
      refine at_goto (tgt := 25) hC dX11_lives_21 rfl ?_
      exact at_zret (F := eqA ad) (ra := rI) hC nb1 dX11_lives_25 rfl (Nat.le_refl 0) (Nat.le_refl 0) rfl
theorem dX11_looksWith_0 : decode cX11_looksWith 0 = .ok (.aload_n 0, 1) := by decide +kernel
theorem dX11_looksWith_1 : decode cX11_looksWith 1 = .ok (.iconst (-1), 1) := by decide +kernel
theorem dX11_looksWith_2 : decode cX11_looksWith 2 = .ok (.invokevirtual 143, 3) := by decide +kernel
theorem dX11_looksWith_5 : decode cX11_looksWith 5 = .ok (.iconst 0, 1) := by decide +kernel
theorem dX11_looksWith_6 : decode cX11_looksWith 6 = .ok (.istore_n 2, 1) := by decide +kernel
theorem dX11_looksWith_7 : decode cX11_looksWith 7 = .ok (.iload_n 1, 1) := by decide +kernel
theorem dX11_looksWith_8 : decode cX11_looksWith 8 = .ok (.ifCond .lt 77, 3) := by decide +kernel
theorem dX11_looksWith_11 : decode cX11_looksWith 11 = .ok (.iload_n 2, 1) := by decide +kernel
theorem dX11_looksWith_12 : decode cX11_looksWith 12 = .ok (.aload_n 0, 1) := by decide +kernel
theorem dX11_looksWith_13 : decode cX11_looksWith 13 = .ok (.getfield 92, 3) := by decide +kernel
theorem dX11_looksWith_16 : decode cX11_looksWith 16 = .ok (.iload_n 1, 1) := by decide +kernel
theorem dX11_looksWith_17 : decode cX11_looksWith 17 = .ok (.iaload, 1) := by decide +kernel
theorem dX11_looksWith_18 : decode cX11_looksWith 18 = .ok (.if_icmp .ge 67, 3) := by decide +kernel
theorem dX11_looksWith_21 : decode cX11_looksWith 21 = .ok (.aload_n 0, 1) := by decide +kernel
theorem dX11_looksWith_22 : decode cX11_looksWith 22 = .ok (.getfield 95, 3) := by decide +kernel
theorem dX11_looksWith_25 : decode cX11_looksWith 25 = .ok (.bipush 8, 2) := by decide +kernel
theorem dX11_looksWith_27 : decode cX11_looksWith 27 = .ok (.iload_n 1, 1) := by decide +kernel
theorem dX11_looksWith_28 : decode cX11_looksWith 28 = .ok (.imul, 1) := by decide +kernel
theorem dX11_looksWith_29 : decode cX11_looksWith 29 = .ok (.iload_n 2, 1) := by decide +kernel
theorem dX11_looksWith_30 : decode cX11_looksWith 30 = .ok (.iadd, 1) := by decide +kernel
theorem dX11_looksWith_31 : decode cX11_looksWith 31 = .ok (.iaload, 1) := by decide +kernel
theorem dX11_looksWith_32 : decode cX11_looksWith 32 = .ok (.istore_n 3, 1) := by decide +kernel
theorem dX11_looksWith_33 : decode cX11_looksWith 33 = .ok (.bipush 100, 2) := by decide +kernel
theorem dX11_looksWith_35 : decode cX11_looksWith 35 = .ok (.aload_n 0, 1) := by decide +kernel
theorem dX11_looksWith_36 : decode cX11_looksWith 36 = .ok (.getfield 98, 3) := by decide +kernel
theorem dX11_looksWith_39 : decode cX11_looksWith 39 = .ok (.bipush 8, 2) := by decide +kernel
theorem dX11_looksWith_41 : decode cX11_looksWith 41 = .ok (.iload_n 1, 1) := by decide +kernel
theorem dX11_looksWith_42 : decode cX11_looksWith 42 = .ok (.imul, 1) := by decide +kernel
theorem dX11_looksWith_43 : decode cX11_looksWith 43 = .ok (.iload_n 2, 1) := by decide +kernel
theorem dX11_looksWith_44 : decode cX11_looksWith 44 = .ok (.iadd, 1) := by decide +kernel
theorem dX11_looksWith_45 : decode cX11_looksWith 45 = .ok (.iaload, 1) := by decide +kernel
theorem dX11_looksWith_46 : decode cX11_looksWith 46 = .ok (.imul, 1) := by decide +kernel
theorem dX11_looksWith_47 : decode cX11_looksWith 47 = .ok (.bipush 50, 2) := by decide +kernel
theorem dX11_looksWith_49 : decode cX11_looksWith 49 = .ok (.iadd, 1) := by decide +kernel
theorem dX11_looksWith_50 : decode cX11_looksWith 50 = .ok (.istore 4, 2) := by decide +kernel
theorem dX11_looksWith_52 : decode cX11_looksWith 52 = .ok (.aload_n 0, 1) := by decide +kernel
theorem dX11_looksWith_53 : decode cX11_looksWith 53 = .ok (.getfield 114, 3) := by decide +kernel
theorem dX11_looksWith_56 : decode cX11_looksWith 56 = .ok (.iload_n 3, 1) := by decide +kernel
theorem dX11_looksWith_57 : decode cX11_looksWith 57 = .ok (.aload_n 0, 1) := by decide +kernel
theorem dX11_looksWith_58 : decode cX11_looksWith 58 = .ok (.iload_n 3, 1) := by decide +kernel
theorem dX11_looksWith_59 : decode cX11_looksWith 59 = .ok (.iload 4, 2) := by decide +kernel
theorem dX11_looksWith_61 : decode cX11_looksWith 61 = .ok (.invokevirtual 147, 3) := by decide +kernel
theorem dX11_looksWith_64 : decode cX11_looksWith 64 = .ok (.ifCond .eq 8, 3) := by decide +kernel
theorem dX11_looksWith_67 : decode cX11_looksWith 67 = .ok (.iload 4, 2) := by decide +kernel
theorem dX11_looksWith_69 : decode cX11_looksWith 69 = .ok (.goto 9, 3) := by decide +kernel
theorem dX11_looksWith_72 : decode cX11_looksWith 72 = .ok (.aload_n 0, 1) := by decide +kernel
theorem dX11_looksWith_73 : decode cX11_looksWith 73 = .ok (.getfield 114, 3) := by decide +kernel
theorem dX11_looksWith_76 : decode cX11_looksWith 76 = .ok (.iload_n 3, 1) := by decide +kernel
theorem dX11_looksWith_77 : decode cX11_looksWith 77 = .ok (.iaload, 1) := by decide +kernel
theorem dX11_looksWith_78 : decode cX11_looksWith 78 = .ok (.iastore, 1) := by decide +kernel
theorem dX11_looksWith_79 : decode cX11_looksWith 79 = .ok (.iinc 2 1, 3) := by decide +kernel
theorem dX11_looksWith_82 : decode cX11_looksWith 82 = .ok (.goto (-75), 3) := by decide +kernel
theorem dX11_looksWith_85 : decode cX11_looksWith 85 = .ok (.return_, 1) := by decide +kernel
set_option maxRecDepth 100000 in
theorem t_M_looksWith_J78 (hC : CX z ad x cX11_looksWith RX11 5 none) (hR : x.2.2.1 = rmk 2 0 0) (k_7 : MS → Int32 → Int32 → Option (Unit × MS)) (hk_7 : ∀ (σ : MS) (a1 : Int32) (a2 : Int32), AT z x 5 (wM z τ) rU (eqA ad) 0 0 0 0 ad 7 [(0, .ref 0), (1, .int a1), (2, .int a2)] [] σ (k_7 σ a1 a2)) (σ : MS) (a1 : Int32) (a2 : Int32) (s0 : Int32) (s1 : Int32) : AT z x 5 (wM z τ) rU (eqA ad) 0 0 0 0 ad 78 [(0, .ref 0), (1, .int a1), (2, .int a2)] [.int s0, .int s1, .ref 33] σ (M_looksWith_J78 k_7 σ a1 a2 s0 s1) := by
  unfold M_looksWith_J78
  refine at_iast hC 33 dX11_looksWith_78 cl_33 st_33 ?_
  refine at_iinc (j := 2) (v := a2 + 1) (lv' := [(2, .int (a2 + 1)), (0, .ref 0), (1, .int a1)]) hC dX11_looksWith_79 rfl rfl (by decide) rfl ?_
  refine at_goto (tgt := 7) hC dX11_looksWith_82 rfl ?_
  refine at_drop (lv' := [(0, .ref 0), (1, .int a1), (2, .int (a2 + 1))]) [1, 2, 0] rfl ?_
  exact hk_7 (sA σ 44 (upd (σ.2.1 44) s1.toNatClampNeg s0)) a1 (a2 + 1)
set_option maxRecDepth 100000 in
theorem t_M_looksWith_L7 (hC : CX z ad x cX11_looksWith RX11 5 none) (hR : x.2.2.1 = rmk 2 0 0) (n : Nat) (σ : MS) (a1 : Int32) (a2 : Int32) : AT z x 5 (wM z τ) rU (eqA ad) 0 0 0 0 ad 7 [(0, .ref 0), (1, .int a1), (2, .int a2)] [] σ (M_looksWith_L7 n σ a1 a2) := by
  revert σ a1 a2
  show ∀ (σ : MS) (a1 : Int32) (a2 : Int32), AT z x 5 (wM z τ) rU (eqA ad) 0 0 0 0 ad 7 [(0, .ref 0), (1, .int a1), (2, .int a2)] [] σ (M_looksWith_L7_r n σ a1 a2)
  induction n with
  | zero => intro σ a1 a2; exact at_none
  | succ n hk_7 =>
    intro σ a1 a2
    unfold M_looksWith_L7_r
    refine at_iload_n (j := 1) hC rfl rfl dX11_looksWith_7 ?_
    refine at_if_lt (tgt := 85) hC dX11_looksWith_8 rfl (fun _ => ?_) (fun _ => ?_)
    · exact at_vret (F := eqA ad) (ra := rU) hC dX11_looksWith_85 rfl (Nat.le_refl 0) (Nat.le_refl 0) rfl
    · refine at_iload_n (j := 2) hC rfl rfl dX11_looksWith_11 ?_
      refine at_aload_n (j := 0) hC rfl rfl dX11_looksWith_12 ?_
      refine gf_X11_92 hC dX11_looksWith_13 ?_
      refine at_iload_n (j := 1) hC rfl rfl dX11_looksWith_16 ?_
      refine at_iald hC 26 dX11_looksWith_17 cl_26 (fun v2 => ?_)
      refine at_icmp_ge (tgt := 85) hC dX11_looksWith_18 rfl (fun _ => ?_) (fun _ => ?_)
      · exact at_vret (F := eqA ad) (ra := rU) hC dX11_looksWith_85 rfl (Nat.le_refl 0) (Nat.le_refl 0) rfl
      · refine at_aload_n (j := 0) hC rfl rfl dX11_looksWith_21 ?_
        refine gf_X11_95 hC dX11_looksWith_22 ?_
        refine at_bipush hC bi_8 dX11_looksWith_25 ?_
        refine at_iload_n (j := 1) hC rfl rfl dX11_looksWith_27 ?_
        refine at_imul hC dX11_looksWith_28 ?_
        refine at_iload_n (j := 2) hC rfl rfl dX11_looksWith_29 ?_
        refine at_iadd hC dX11_looksWith_30 ?_
        refine at_iald hC 27 dX11_looksWith_31 cl_27 (fun v3 => ?_)
        refine at_istore_n (lv' := [(3, .int v3), (0, .ref 0), (1, .int a1), (2, .int a2)]) hC rfl dX11_looksWith_32 (by decide) rfl ?_
        refine at_bipush hC bi_100 dX11_looksWith_33 ?_
        refine at_aload_n (j := 1) hC rfl rfl dX11_looksWith_35 ?_
        refine gf_X11_98 hC dX11_looksWith_36 ?_
        refine at_bipush hC bi_8 dX11_looksWith_39 ?_
        refine at_iload_n (j := 2) hC rfl rfl dX11_looksWith_41 ?_
        refine at_imul hC dX11_looksWith_42 ?_
        refine at_iload_n (j := 3) hC rfl rfl dX11_looksWith_43 ?_
        refine at_iadd hC dX11_looksWith_44 ?_
        refine at_iald hC 28 dX11_looksWith_45 cl_28 (fun v4 => ?_)
        refine at_imul hC dX11_looksWith_46 ?_
        refine at_bipush hC bi_50 dX11_looksWith_47 ?_
        refine at_iadd hC dX11_looksWith_49 ?_
        refine at_istore (lv' := [(4, .int ((100 * v4) + 50)), (3, .int v3), (0, .ref 0), (1, .int a1), (2, .int a2)]) hC dX11_looksWith_50 (by decide) rfl ?_
        refine at_aload_n (j := 2) hC rfl rfl dX11_looksWith_52 ?_
        refine gf_X11_114 hC dX11_looksWith_53 ?_
        refine at_iload_n (j := 1) hC rfl rfl dX11_looksWith_56 ?_
        refine at_aload_n (j := 2) hC rfl rfl dX11_looksWith_57 ?_
        refine at_iload_n (j := 1) hC rfl rfl dX11_looksWith_58 ?_
        refine at_iload (j := 0) hC rfl dX11_looksWith_59 ?_
        refine at_callVpI hC hR lk_X11_147 (c_M_lives σ v3 ((100 * v4) + 50)) dX11_looksWith_61 recX11 rfl rfl ⟨by decide, by decide⟩ (Nat.le_of_ble_eq_true rfl) ⟨Nat.le_refl 0, Nat.le_refl 0⟩ (fun r5 _ => ?_)
        refine at_if_eq (tgt := 72) hC dX11_looksWith_64 rfl (fun _ => ?_) (fun _ => ?_)
        · refine at_aload_n (j := 2) hC rfl rfl dX11_looksWith_72 ?_
          refine gf_X11_114 hC dX11_looksWith_73 ?_
          refine at_iload_n (j := 1) hC rfl rfl dX11_looksWith_76 ?_
          refine at_iald hC 33 dX11_looksWith_77 cl_33 (fun v6 => ?_)
          refine at_drop (lv' := [(0, .ref 0), (1, .int a1), (2, .int a2)]) [2, 3, 4] rfl ?_
          exact t_M_looksWith_J78 hC hR (M_looksWith_L7_r n) hk_7 σ a1 a2 v6 v3
        · refine at_iload (j := 0) hC rfl dX11_looksWith_67 ?_
          refine at_goto (tgt := 78) hC dX11_looksWith_69 rfl ?_
          refine at_drop (lv' := [(0, .ref 0), (1, .int a1), (2, .int a2)]) [2, 3, 4] rfl ?_
          exact t_M_looksWith_J78 hC hR (M_looksWith_L7_r n) hk_7 σ a1 a2 ((100 * v4) + 50) v3
set_option maxRecDepth 100000 in
theorem c_M_looksWith (σ : MS) (p0 : Int32) : Ct z (wM z τ) rU eqA yX11_looksWith cX11_looksWith 5 none 2 0 0 [.ref 0, .int p0] σ (M_looksWith σ p0) := by
  refine Ct.of (by decide) (Nat.le_of_ble_eq_true rfl) (fun ad x hC hR _ => ?_)
  show AT z x 5 (wM z τ) rU (eqA ad) 0 0 0 0 ad 0 [(0, .ref 0), (1, .int p0)] [] σ (M_looksWith σ p0)
  unfold M_looksWith
  refine at_aload_n (j := 0) hC rfl rfl dX11_looksWith_0 ?_
  refine at_iconst hC ic_m1 dX11_looksWith_1 ?_
  refine at_callVU hC hR lk_X11_143 (c_M_looks σ (-1)) dX11_looksWith_2 recX11 rfl rfl ⟨by decide, by decide⟩ (Nat.le_of_ble_eq_true rfl) ⟨Nat.le_refl 0, Nat.le_refl 0⟩ (fun r1 r1s _ => ?_)
  refine at_iconst hC ic_0 dX11_looksWith_5 ?_
  refine at_istore_n (lv' := [(2, .int 0), (0, .ref 0), (1, .int p0)]) hC rfl dX11_looksWith_6 (by decide) rfl ?_
  refine at_drop (lv' := [(0, .ref 0), (1, .int p0), (2, .int 0)]) [1, 2, 0] rfl ?_
  exact t_M_looksWith_L7 hC hR 100000 r1s p0 0
theorem dX11_ageOf_0 : decode cX11_ageOf 0 = .ok (.iload_n 2, 1) := by decide +kernel
theorem dX11_ageOf_1 : decode cX11_ageOf 1 = .ok (.aload_n 0, 1) := by decide +kernel
theorem dX11_ageOf_2 : decode cX11_ageOf 2 = .ok (.getfield 15, 3) := by decide +kernel
theorem dX11_ageOf_5 : decode cX11_ageOf 5 = .ok (.iload_n 1, 1) := by decide +kernel
theorem dX11_ageOf_6 : decode cX11_ageOf 6 = .ok (.iaload, 1) := by decide +kernel
theorem dX11_ageOf_7 : decode cX11_ageOf 7 = .ok (.if_icmp .ge 7, 3) := by decide +kernel
theorem dX11_ageOf_10 : decode cX11_ageOf 10 = .ok (.iconst 0, 1) := by decide +kernel
theorem dX11_ageOf_11 : decode cX11_ageOf 11 = .ok (.goto 14, 3) := by decide +kernel
theorem dX11_ageOf_14 : decode cX11_ageOf 14 = .ok (.iload_n 2, 1) := by decide +kernel
theorem dX11_ageOf_15 : decode cX11_ageOf 15 = .ok (.aload_n 0, 1) := by decide +kernel
theorem dX11_ageOf_16 : decode cX11_ageOf 16 = .ok (.getfield 15, 3) := by decide +kernel
theorem dX11_ageOf_19 : decode cX11_ageOf 19 = .ok (.iload_n 1, 1) := by decide +kernel
theorem dX11_ageOf_20 : decode cX11_ageOf 20 = .ok (.iaload, 1) := by decide +kernel
theorem dX11_ageOf_21 : decode cX11_ageOf 21 = .ok (.isub, 1) := by decide +kernel
theorem dX11_ageOf_22 : decode cX11_ageOf 22 = .ok (.bipush 100, 2) := by decide +kernel
theorem dX11_ageOf_24 : decode cX11_ageOf 24 = .ok (.idiv, 1) := by decide +kernel
theorem dX11_ageOf_25 : decode cX11_ageOf 25 = .ok (.ireturn, 1) := by decide +kernel
set_option maxRecDepth 100000 in
theorem c_M_ageOf (σ : MS) (p0 : Int32) (p1 : Int32) : Ct z (wM z τ) rI eqA yX11_ageOf cX11_ageOf 3 (some .int) 1 0 0 [.ref 0, .int p0, .int p1] σ ((M_ageOf σ p0 p1).map fun r => (r, σ)) := by
  refine Ct.of (by decide) (Nat.le_of_ble_eq_true rfl) (fun ad x hC hR _ => ?_)
  show AT z x 3 (wM z τ) rI (eqA ad) 0 0 0 0 ad 0 [(0, .ref 0), (1, .int p0), (2, .int p1)] [] σ ((M_ageOf σ p0 p1).map fun r => (r, σ))
  unfold M_ageOf
  refine at_iload_n (j := 2) hC rfl rfl dX11_ageOf_0 ?_
  refine at_aload_n (j := 0) hC rfl rfl dX11_ageOf_1 ?_
  refine gf_X11_15 hC dX11_ageOf_2 ?_
  refine at_iload_n (j := 1) hC rfl rfl dX11_ageOf_5 ?_
  refine ap_iald hC 2 dX11_ageOf_6 cl_2 (fun v1 => ?_)
  refine ap_icmp_ge (tgt := 14) hC dX11_ageOf_7 rfl (fun _ => ?_) (fun _ => ?_)
  · refine at_iload_n (j := 2) hC rfl rfl dX11_ageOf_14 ?_
    refine at_aload_n (j := 0) hC rfl rfl dX11_ageOf_15 ?_
    refine gf_X11_15 hC dX11_ageOf_16 ?_
    refine at_iload_n (j := 1) hC rfl rfl dX11_ageOf_19 ?_
    refine ap_iald hC 2 dX11_ageOf_20 cl_2 (fun v2 => ?_)
    refine at_isub hC dX11_ageOf_21 ?_
    refine at_bipush hC bi_100 dX11_ageOf_22 ?_
    refine at_idiv hC (by decide) dX11_ageOf_24 ?_
    exact at_iret (F := eqA ad) (ra := rI) hC dX11_ageOf_25 rfl (Nat.le_refl 0) (Nat.le_refl 0) rfl
  · refine at_iconst hC ic_0 dX11_ageOf_10 ?_
    refine at_goto (tgt := 25) hC dX11_ageOf_11 rfl ?_
    exact at_iret (F := eqA ad) (ra := rI) hC dX11_ageOf_25 rfl (Nat.le_refl 0) (Nat.le_refl 0) rfl
theorem dX11_lastWedding_0 : decode cX11_lastWedding 0 = .ok (.iconst (-1), 1) := by decide +kernel
theorem dX11_lastWedding_1 : decode cX11_lastWedding 1 = .ok (.istore_n 3, 1) := by decide +kernel
theorem dX11_lastWedding_2 : decode cX11_lastWedding 2 = .ok (.iconst 0, 1) := by decide +kernel
theorem dX11_lastWedding_3 : decode cX11_lastWedding 3 = .ok (.istore 4, 2) := by decide +kernel
theorem dX11_lastWedding_5 : decode cX11_lastWedding 5 = .ok (.iload 4, 2) := by decide +kernel
theorem dX11_lastWedding_7 : decode cX11_lastWedding 7 = .ok (.aload_n 0, 1) := by decide +kernel
theorem dX11_lastWedding_8 : decode cX11_lastWedding 8 = .ok (.getfield 140, 3) := by decide +kernel
theorem dX11_lastWedding_11 : decode cX11_lastWedding 11 = .ok (.if_icmp .ge 103, 3) := by decide +kernel
theorem dX11_lastWedding_14 : decode cX11_lastWedding 14 = .ok (.aload_n 0, 1) := by decide +kernel
theorem dX11_lastWedding_15 : decode cX11_lastWedding 15 = .ok (.getfield 111, 3) := by decide +kernel
theorem dX11_lastWedding_18 : decode cX11_lastWedding 18 = .ok (.iload 4, 2) := by decide +kernel
theorem dX11_lastWedding_20 : decode cX11_lastWedding 20 = .ok (.baload, 1) := by decide +kernel
theorem dX11_lastWedding_21 : decode cX11_lastWedding 21 = .ok (.ifCond .eq 51, 3) := by decide +kernel
theorem dX11_lastWedding_24 : decode cX11_lastWedding 24 = .ok (.aload_n 0, 1) := by decide +kernel
theorem dX11_lastWedding_25 : decode cX11_lastWedding 25 = .ok (.getfield 24, 3) := by decide +kernel
theorem dX11_lastWedding_28 : decode cX11_lastWedding 28 = .ok (.iload 4, 2) := by decide +kernel
theorem dX11_lastWedding_30 : decode cX11_lastWedding 30 = .ok (.iaload, 1) := by decide +kernel
theorem dX11_lastWedding_31 : decode cX11_lastWedding 31 = .ok (.iconst 1, 1) := by decide +kernel
theorem dX11_lastWedding_32 : decode cX11_lastWedding 32 = .ok (.if_icmp .ne 40, 3) := by decide +kernel
theorem dX11_lastWedding_35 : decode cX11_lastWedding 35 = .ok (.aload_n 0, 1) := by decide +kernel
theorem dX11_lastWedding_36 : decode cX11_lastWedding 36 = .ok (.getfield 27, 3) := by decide +kernel
theorem dX11_lastWedding_39 : decode cX11_lastWedding 39 = .ok (.iload 4, 2) := by decide +kernel
theorem dX11_lastWedding_41 : decode cX11_lastWedding 41 = .ok (.iaload, 1) := by decide +kernel
theorem dX11_lastWedding_42 : decode cX11_lastWedding 42 = .ok (.iload_n 1, 1) := by decide +kernel
theorem dX11_lastWedding_43 : decode cX11_lastWedding 43 = .ok (.if_icmp .eq 14, 3) := by decide +kernel
theorem dX11_lastWedding_46 : decode cX11_lastWedding 46 = .ok (.aload_n 0, 1) := by decide +kernel
theorem dX11_lastWedding_47 : decode cX11_lastWedding 47 = .ok (.getfield 30, 3) := by decide +kernel
theorem dX11_lastWedding_50 : decode cX11_lastWedding 50 = .ok (.iload 4, 2) := by decide +kernel
theorem dX11_lastWedding_52 : decode cX11_lastWedding 52 = .ok (.iaload, 1) := by decide +kernel
theorem dX11_lastWedding_53 : decode cX11_lastWedding 53 = .ok (.iload_n 1, 1) := by decide +kernel
theorem dX11_lastWedding_54 : decode cX11_lastWedding 54 = .ok (.if_icmp .ne 18, 3) := by decide +kernel
theorem dX11_lastWedding_57 : decode cX11_lastWedding 57 = .ok (.aload_n 0, 1) := by decide +kernel
theorem dX11_lastWedding_58 : decode cX11_lastWedding 58 = .ok (.getfield 33, 3) := by decide +kernel
theorem dX11_lastWedding_61 : decode cX11_lastWedding 61 = .ok (.iload 4, 2) := by decide +kernel
theorem dX11_lastWedding_63 : decode cX11_lastWedding 63 = .ok (.iaload, 1) := by decide +kernel
theorem dX11_lastWedding_64 : decode cX11_lastWedding 64 = .ok (.iload_n 2, 1) := by decide +kernel
theorem dX11_lastWedding_65 : decode cX11_lastWedding 65 = .ok (.if_icmp .gt 7, 3) := by decide +kernel
theorem dX11_lastWedding_68 : decode cX11_lastWedding 68 = .ok (.iconst 1, 1) := by decide +kernel
theorem dX11_lastWedding_69 : decode cX11_lastWedding 69 = .ok (.goto 4, 3) := by decide +kernel
theorem dX11_lastWedding_72 : decode cX11_lastWedding 72 = .ok (.iconst 0, 1) := by decide +kernel
theorem dX11_lastWedding_73 : decode cX11_lastWedding 73 = .ok (.istore 5, 2) := by decide +kernel
theorem dX11_lastWedding_75 : decode cX11_lastWedding 75 = .ok (.iload 5, 2) := by decide +kernel
theorem dX11_lastWedding_77 : decode cX11_lastWedding 77 = .ok (.ifCond .eq 29, 3) := by decide +kernel
theorem dX11_lastWedding_80 : decode cX11_lastWedding 80 = .ok (.iload_n 3, 1) := by decide +kernel
theorem dX11_lastWedding_81 : decode cX11_lastWedding 81 = .ok (.iconst (-1), 1) := by decide +kernel
theorem dX11_lastWedding_82 : decode cX11_lastWedding 82 = .ok (.if_icmp .eq 19, 3) := by decide +kernel
theorem dX11_lastWedding_85 : decode cX11_lastWedding 85 = .ok (.aload_n 0, 1) := by decide +kernel
theorem dX11_lastWedding_86 : decode cX11_lastWedding 86 = .ok (.getfield 33, 3) := by decide +kernel
theorem dX11_lastWedding_89 : decode cX11_lastWedding 89 = .ok (.iload 4, 2) := by decide +kernel
theorem dX11_lastWedding_91 : decode cX11_lastWedding 91 = .ok (.iaload, 1) := by decide +kernel
theorem dX11_lastWedding_92 : decode cX11_lastWedding 92 = .ok (.aload_n 0, 1) := by decide +kernel
theorem dX11_lastWedding_93 : decode cX11_lastWedding 93 = .ok (.getfield 33, 3) := by decide +kernel
theorem dX11_lastWedding_96 : decode cX11_lastWedding 96 = .ok (.iload_n 3, 1) := by decide +kernel
theorem dX11_lastWedding_97 : decode cX11_lastWedding 97 = .ok (.iaload, 1) := by decide +kernel
theorem dX11_lastWedding_98 : decode cX11_lastWedding 98 = .ok (.if_icmp .lt 8, 3) := by decide +kernel
theorem dX11_lastWedding_101 : decode cX11_lastWedding 101 = .ok (.iload 4, 2) := by decide +kernel
theorem dX11_lastWedding_103 : decode cX11_lastWedding 103 = .ok (.goto 4, 3) := by decide +kernel
theorem dX11_lastWedding_106 : decode cX11_lastWedding 106 = .ok (.iload_n 3, 1) := by decide +kernel
theorem dX11_lastWedding_107 : decode cX11_lastWedding 107 = .ok (.istore_n 3, 1) := by decide +kernel
theorem dX11_lastWedding_108 : decode cX11_lastWedding 108 = .ok (.iinc 4 1, 3) := by decide +kernel
theorem dX11_lastWedding_111 : decode cX11_lastWedding 111 = .ok (.goto (-106), 3) := by decide +kernel
theorem dX11_lastWedding_114 : decode cX11_lastWedding 114 = .ok (.iload_n 3, 1) := by decide +kernel
theorem dX11_lastWedding_115 : decode cX11_lastWedding 115 = .ok (.ireturn, 1) := by decide +kernel
set_option maxRecDepth 100000 in
theorem t_M_lastWedding_J107 (hC : CX z ad x cX11_lastWedding RX11 6 (some .int)) (hR : x.2.2.1 = rmk 1 0 0) (σ : MS) (k_5 : Int32 → Int32 → Int32 → Int32 → Option Int32) (hk_5 : ∀ (a1 : Int32) (a2 : Int32) (a3 : Int32) (a4 : Int32), AT z x 6 (wM z τ) rI (eqA ad) 0 0 0 0 ad 5 [(0, .ref 0), (1, .int a1), (2, .int a2), (3, .int a3), (4, .int a4)] [] σ ((k_5 a1 a2 a3 a4).map fun r => (r, σ))) (a1 : Int32) (a2 : Int32) (a4 : Int32) (s0 : Int32) : AT z x 6 (wM z τ) rI (eqA ad) 0 0 0 0 ad 107 [(0, .ref 0), (1, .int a1), (2, .int a2), (4, .int a4)] [.int s0] σ ((M_lastWedding_J107 k_5 σ a1 a2 a4 s0).map fun r => (r, σ)) := by
  unfold M_lastWedding_J107
  refine at_istore_n (lv' := [(3, .int s0), (0, .ref 0), (1, .int a1), (2, .int a2), (4, .int a4)]) hC rfl dX11_lastWedding_107 (by decide) rfl ?_
  refine at_iinc (j := 4) (v := a4 + 1) (lv' := [(4, .int (a4 + 1)), (3, .int s0), (0, .ref 0), (1, .int a1), (2, .int a2)]) hC dX11_lastWedding_108 rfl rfl (by decide) rfl ?_
  refine at_goto (tgt := 5) hC dX11_lastWedding_111 rfl ?_
  refine at_drop (lv' := [(0, .ref 0), (1, .int a1), (2, .int a2), (3, .int s0), (4, .int (a4 + 1))]) [2, 3, 4, 1, 0] rfl ?_
  exact hk_5 a1 a2 s0 (a4 + 1)
set_option maxRecDepth 100000 in
theorem t_M_lastWedding_J106 (hC : CX z ad x cX11_lastWedding RX11 6 (some .int)) (hR : x.2.2.1 = rmk 1 0 0) (σ : MS) (k_5 : Int32 → Int32 → Int32 → Int32 → Option Int32) (hk_5 : ∀ (a1 : Int32) (a2 : Int32) (a3 : Int32) (a4 : Int32), AT z x 6 (wM z τ) rI (eqA ad) 0 0 0 0 ad 5 [(0, .ref 0), (1, .int a1), (2, .int a2), (3, .int a3), (4, .int a4)] [] σ ((k_5 a1 a2 a3 a4).map fun r => (r, σ))) (a1 : Int32) (a2 : Int32) (a3 : Int32) (a4 : Int32) : AT z x 6 (wM z τ) rI (eqA ad) 0 0 0 0 ad 106 [(0, .ref 0), (1, .int a1), (2, .int a2), (3, .int a3), (4, .int a4)] [] σ ((M_lastWedding_J106 k_5 σ a1 a2 a3 a4).map fun r => (r, σ)) := by
  unfold M_lastWedding_J106
  refine at_iload_n (j := 3) hC rfl rfl dX11_lastWedding_106 ?_
  refine at_drop (lv' := [(0, .ref 0), (1, .int a1), (2, .int a2), (4, .int a4)]) [0, 1, 2, 4] rfl ?_
  exact t_M_lastWedding_J107 hC hR σ k_5 hk_5 a1 a2 a4 a3
set_option maxRecDepth 100000 in
theorem t_M_lastWedding_J101 (hC : CX z ad x cX11_lastWedding RX11 6 (some .int)) (hR : x.2.2.1 = rmk 1 0 0) (σ : MS) (k_5 : Int32 → Int32 → Int32 → Int32 → Option Int32) (hk_5 : ∀ (a1 : Int32) (a2 : Int32) (a3 : Int32) (a4 : Int32), AT z x 6 (wM z τ) rI (eqA ad) 0 0 0 0 ad 5 [(0, .ref 0), (1, .int a1), (2, .int a2), (3, .int a3), (4, .int a4)] [] σ ((k_5 a1 a2 a3 a4).map fun r => (r, σ))) (a1 : Int32) (a2 : Int32) (a4 : Int32) : AT z x 6 (wM z τ) rI (eqA ad) 0 0 0 0 ad 101 [(0, .ref 0), (1, .int a1), (2, .int a2), (4, .int a4)] [] σ ((M_lastWedding_J101 k_5 σ a1 a2 a4).map fun r => (r, σ)) := by
  unfold M_lastWedding_J101
  refine at_iload (j := 3) hC rfl dX11_lastWedding_101 ?_
  refine at_goto (tgt := 107) hC dX11_lastWedding_103 rfl ?_
  exact t_M_lastWedding_J107 hC hR σ k_5 hk_5 a1 a2 a4 a4
set_option maxRecDepth 100000 in
theorem t_M_lastWedding_J73 (hC : CX z ad x cX11_lastWedding RX11 6 (some .int)) (hR : x.2.2.1 = rmk 1 0 0) (σ : MS) (k_5 : Int32 → Int32 → Int32 → Int32 → Option Int32) (hk_5 : ∀ (a1 : Int32) (a2 : Int32) (a3 : Int32) (a4 : Int32), AT z x 6 (wM z τ) rI (eqA ad) 0 0 0 0 ad 5 [(0, .ref 0), (1, .int a1), (2, .int a2), (3, .int a3), (4, .int a4)] [] σ ((k_5 a1 a2 a3 a4).map fun r => (r, σ))) (a1 : Int32) (a2 : Int32) (a3 : Int32) (a4 : Int32) (s0 : Int32) : AT z x 6 (wM z τ) rI (eqA ad) 0 0 0 0 ad 73 [(0, .ref 0), (1, .int a1), (2, .int a2), (3, .int a3), (4, .int a4)] [.int s0] σ ((M_lastWedding_J73 k_5 σ a1 a2 a3 a4 s0).map fun r => (r, σ)) := by
  unfold M_lastWedding_J73
  refine at_istore (lv' := [(5, .int s0), (0, .ref 0), (1, .int a1), (2, .int a2), (3, .int a3), (4, .int a4)]) hC dX11_lastWedding_73 (by decide) rfl ?_
  refine at_iload (j := 0) hC rfl dX11_lastWedding_75 ?_
  refine ap_if_eq (tgt := 106) hC dX11_lastWedding_77 rfl (fun _ => ?_) (fun _ => ?_)
  · refine at_drop (lv' := [(0, .ref 0), (1, .int a1), (2, .int a2), (3, .int a3), (4, .int a4)]) [1, 2, 3, 4, 5] rfl ?_
    exact t_M_lastWedding_J106 hC hR σ k_5 hk_5 a1 a2 a3 a4
  · refine at_iload_n (j := 4) hC rfl rfl dX11_lastWedding_80 ?_
    refine at_iconst hC ic_m1 dX11_lastWedding_81 ?_
    refine ap_icmp_eq (tgt := 101) hC dX11_lastWedding_82 rfl (fun _ => ?_) (fun _ => ?_)
    · refine at_drop (lv' := [(0, .ref 0), (1, .int a1), (2, .int a2), (4, .int a4)]) [1, 2, 3, 5] rfl ?_
      exact t_M_lastWedding_J101 hC hR σ k_5 hk_5 a1 a2 a4
    · refine at_aload_n (j := 1) hC rfl rfl dX11_lastWedding_85 ?_
      refine gf_X11_33 hC dX11_lastWedding_86 ?_
      refine at_iload (j := 5) hC rfl dX11_lastWedding_89 ?_
      refine ap_iald hC 8 dX11_lastWedding_91 cl_8 (fun v2 => ?_)
      refine at_aload_n (j := 1) hC rfl rfl dX11_lastWedding_92 ?_
      refine gf_X11_33 hC dX11_lastWedding_93 ?_
      refine at_iload_n (j := 4) hC rfl rfl dX11_lastWedding_96 ?_
      refine ap_iald hC 8 dX11_lastWedding_97 cl_8 (fun v3 => ?_)
      refine ap_icmp_lt (tgt := 106) hC dX11_lastWedding_98 rfl (fun _ => ?_) (fun _ => ?_)
      · refine at_drop (lv' := [(0, .ref 0), (1, .int a1), (2, .int a2), (3, .int a3), (4, .int a4)]) [1, 2, 3, 4, 5] rfl ?_
        exact t_M_lastWedding_J106 hC hR σ k_5 hk_5 a1 a2 a3 a4
      · refine at_drop (lv' := [(0, .ref 0), (1, .int a1), (2, .int a2), (4, .int a4)]) [1, 2, 3, 5] rfl ?_
        exact t_M_lastWedding_J101 hC hR σ k_5 hk_5 a1 a2 a4
set_option maxRecDepth 100000 in
theorem t_M_lastWedding_J72 (hC : CX z ad x cX11_lastWedding RX11 6 (some .int)) (hR : x.2.2.1 = rmk 1 0 0) (σ : MS) (k_5 : Int32 → Int32 → Int32 → Int32 → Option Int32) (hk_5 : ∀ (a1 : Int32) (a2 : Int32) (a3 : Int32) (a4 : Int32), AT z x 6 (wM z τ) rI (eqA ad) 0 0 0 0 ad 5 [(0, .ref 0), (1, .int a1), (2, .int a2), (3, .int a3), (4, .int a4)] [] σ ((k_5 a1 a2 a3 a4).map fun r => (r, σ))) (a1 : Int32) (a2 : Int32) (a3 : Int32) (a4 : Int32) : AT z x 6 (wM z τ) rI (eqA ad) 0 0 0 0 ad 72 [(0, .ref 0), (1, .int a1), (2, .int a2), (3, .int a3), (4, .int a4)] [] σ ((M_lastWedding_J72 k_5 σ a1 a2 a3 a4).map fun r => (r, σ)) := by
  unfold M_lastWedding_J72
  refine at_iconst hC ic_0 dX11_lastWedding_72 ?_
  exact t_M_lastWedding_J73 hC hR σ k_5 hk_5 a1 a2 a3 a4 0
set_option maxRecDepth 100000 in
theorem t_M_lastWedding_J57 (hC : CX z ad x cX11_lastWedding RX11 6 (some .int)) (hR : x.2.2.1 = rmk 1 0 0) (σ : MS) (k_5 : Int32 → Int32 → Int32 → Int32 → Option Int32) (hk_5 : ∀ (a1 : Int32) (a2 : Int32) (a3 : Int32) (a4 : Int32), AT z x 6 (wM z τ) rI (eqA ad) 0 0 0 0 ad 5 [(0, .ref 0), (1, .int a1), (2, .int a2), (3, .int a3), (4, .int a4)] [] σ ((k_5 a1 a2 a3 a4).map fun r => (r, σ))) (a1 : Int32) (a2 : Int32) (a3 : Int32) (a4 : Int32) : AT z x 6 (wM z τ) rI (eqA ad) 0 0 0 0 ad 57 [(0, .ref 0), (1, .int a1), (2, .int a2), (3, .int a3), (4, .int a4)] [] σ ((M_lastWedding_J57 k_5 σ a1 a2 a3 a4).map fun r => (r, σ)) := by
  unfold M_lastWedding_J57
  refine at_aload_n (j := 0) hC rfl rfl dX11_lastWedding_57 ?_
  refine gf_X11_33 hC dX11_lastWedding_58 ?_
  refine at_iload (j := 4) hC rfl dX11_lastWedding_61 ?_
  refine ap_iald hC 8 dX11_lastWedding_63 cl_8 (fun v6 => ?_)
  refine at_iload_n (j := 2) hC rfl rfl dX11_lastWedding_64 ?_
  refine ap_icmp_gt (tgt := 72) hC dX11_lastWedding_65 rfl (fun _ => ?_) (fun _ => ?_)
  · exact t_M_lastWedding_J72 hC hR σ k_5 hk_5 a1 a2 a3 a4
  · refine at_iconst hC ic_1 dX11_lastWedding_68 ?_
    refine at_goto (tgt := 73) hC dX11_lastWedding_69 rfl ?_
    exact t_M_lastWedding_J73 hC hR σ k_5 hk_5 a1 a2 a3 a4 1
set_option maxRecDepth 100000 in
theorem t_M_lastWedding_L5 (hC : CX z ad x cX11_lastWedding RX11 6 (some .int)) (hR : x.2.2.1 = rmk 1 0 0) (σ : MS) (n : Nat) (a1 : Int32) (a2 : Int32) (a3 : Int32) (a4 : Int32) : AT z x 6 (wM z τ) rI (eqA ad) 0 0 0 0 ad 5 [(0, .ref 0), (1, .int a1), (2, .int a2), (3, .int a3), (4, .int a4)] [] σ ((M_lastWedding_L5 n σ a1 a2 a3 a4).map fun r => (r, σ)) := by
  revert a1 a2 a3 a4
  show ∀ (a1 : Int32) (a2 : Int32) (a3 : Int32) (a4 : Int32), AT z x 6 (wM z τ) rI (eqA ad) 0 0 0 0 ad 5 [(0, .ref 0), (1, .int a1), (2, .int a2), (3, .int a3), (4, .int a4)] [] σ ((M_lastWedding_L5_r σ n a1 a2 a3 a4).map fun r => (r, σ))
  induction n with
  | zero => intro a1 a2 a3 a4; exact ap_none
  | succ n hk_5 =>
    intro a1 a2 a3 a4
    unfold M_lastWedding_L5_r
    refine at_iload (j := 4) hC rfl dX11_lastWedding_5 ?_
    refine at_aload_n (j := 0) hC rfl rfl dX11_lastWedding_7 ?_
    refine gf_X11_140 hC dX11_lastWedding_8 ?_
    refine ap_icmp_ge (tgt := 114) hC dX11_lastWedding_11 rfl (fun _ => ?_) (fun _ => ?_)
    · refine at_iload_n (j := 3) hC rfl rfl dX11_lastWedding_114 ?_
      exact at_iret (F := eqA ad) (ra := rI) hC dX11_lastWedding_115 rfl (Nat.le_refl 0) (Nat.le_refl 0) rfl
    · refine at_aload_n (j := 0) hC rfl rfl dX11_lastWedding_14 ?_
      refine gf_X11_111 hC dX11_lastWedding_15 ?_
      refine at_iload (j := 4) hC rfl dX11_lastWedding_18 ?_
      refine ap_zald hC 32 dX11_lastWedding_20 cl_32 (fun v1 => ?_)
      refine ap_if_eq (tgt := 72) hC dX11_lastWedding_21 rfl (fun _ => ?_) (fun _ => ?_)
      · exact t_M_lastWedding_J72 hC hR σ (M_lastWedding_L5_r σ n) hk_5 a1 a2 a3 a4
      · refine at_aload_n (j := 0) hC rfl rfl dX11_lastWedding_24 ?_
        refine gf_X11_24 hC dX11_lastWedding_25 ?_
        refine at_iload (j := 4) hC rfl dX11_lastWedding_28 ?_
        refine ap_iald hC 5 dX11_lastWedding_30 cl_5 (fun v4 => ?_)
        refine at_iconst hC ic_1 dX11_lastWedding_31 ?_
        refine ap_icmp_ne (tgt := 72) hC dX11_lastWedding_32 rfl (fun _ => ?_) (fun _ => ?_)
        · exact t_M_lastWedding_J72 hC hR σ (M_lastWedding_L5_r σ n) hk_5 a1 a2 a3 a4
        · refine at_aload_n (j := 0) hC rfl rfl dX11_lastWedding_35 ?_
          refine gf_X11_27 hC dX11_lastWedding_36 ?_
          refine at_iload (j := 4) hC rfl dX11_lastWedding_39 ?_
          refine ap_iald hC 6 dX11_lastWedding_41 cl_6 (fun v5 => ?_)
          refine at_iload_n (j := 1) hC rfl rfl dX11_lastWedding_42 ?_
          refine ap_icmp_eq (tgt := 57) hC dX11_lastWedding_43 rfl (fun _ => ?_) (fun _ => ?_)
          · exact t_M_lastWedding_J57 hC hR σ (M_lastWedding_L5_r σ n) hk_5 a1 a2 a3 a4
          · refine at_aload_n (j := 0) hC rfl rfl dX11_lastWedding_46 ?_
            refine gf_X11_30 hC dX11_lastWedding_47 ?_
            refine at_iload (j := 4) hC rfl dX11_lastWedding_50 ?_
            refine ap_iald hC 7 dX11_lastWedding_52 cl_7 (fun v7 => ?_)
            refine at_iload_n (j := 1) hC rfl rfl dX11_lastWedding_53 ?_
            refine ap_icmp_ne (tgt := 72) hC dX11_lastWedding_54 rfl (fun _ => ?_) (fun _ => ?_)
            · exact t_M_lastWedding_J72 hC hR σ (M_lastWedding_L5_r σ n) hk_5 a1 a2 a3 a4
            · exact t_M_lastWedding_J57 hC hR σ (M_lastWedding_L5_r σ n) hk_5 a1 a2 a3 a4
set_option maxRecDepth 100000 in
theorem c_M_lastWedding (σ : MS) (p0 : Int32) (p1 : Int32) : Ct z (wM z τ) rI eqA yX11_lastWedding cX11_lastWedding 6 (some .int) 1 0 0 [.ref 0, .int p0, .int p1] σ ((M_lastWedding σ p0 p1).map fun r => (r, σ)) := by
  refine Ct.of (by decide) (Nat.le_of_ble_eq_true rfl) (fun ad x hC hR _ => ?_)
  show AT z x 6 (wM z τ) rI (eqA ad) 0 0 0 0 ad 0 [(0, .ref 0), (1, .int p0), (2, .int p1)] [] σ ((M_lastWedding σ p0 p1).map fun r => (r, σ))
  unfold M_lastWedding
  refine at_iconst hC ic_m1 dX11_lastWedding_0 ?_
  refine at_istore_n (lv' := [(3, .int (-1)), (0, .ref 0), (1, .int p0), (2, .int p1)]) hC rfl dX11_lastWedding_1 (by decide) rfl ?_
  refine at_iconst hC ic_0 dX11_lastWedding_2 ?_
  refine at_istore (lv' := [(4, .int 0), (3, .int (-1)), (0, .ref 0), (1, .int p0), (2, .int p1)]) hC dX11_lastWedding_3 (by decide) rfl ?_
  refine at_drop (lv' := [(0, .ref 0), (1, .int p0), (2, .int p1), (3, .int (-1)), (4, .int 0)]) [2, 3, 4, 1, 0] rfl ?_
  exact t_M_lastWedding_L5 hC hR σ 100000 p0 p1 (-1) 0
theorem dX11_mateIn_0 : decode cX11_mateIn 0 = .ok (.aload_n 0, 1) := by decide +kernel
theorem dX11_mateIn_1 : decode cX11_mateIn 1 = .ok (.getfield 27, 3) := by decide +kernel
theorem dX11_mateIn_4 : decode cX11_mateIn 4 = .ok (.iload_n 1, 1) := by decide +kernel
theorem dX11_mateIn_5 : decode cX11_mateIn 5 = .ok (.iaload, 1) := by decide +kernel
theorem dX11_mateIn_6 : decode cX11_mateIn 6 = .ok (.iload_n 2, 1) := by decide +kernel
theorem dX11_mateIn_7 : decode cX11_mateIn 7 = .ok (.if_icmp .ne 12, 3) := by decide +kernel
theorem dX11_mateIn_10 : decode cX11_mateIn 10 = .ok (.aload_n 0, 1) := by decide +kernel
theorem dX11_mateIn_11 : decode cX11_mateIn 11 = .ok (.getfield 30, 3) := by decide +kernel
theorem dX11_mateIn_14 : decode cX11_mateIn 14 = .ok (.iload_n 1, 1) := by decide +kernel
theorem dX11_mateIn_15 : decode cX11_mateIn 15 = .ok (.iaload, 1) := by decide +kernel
theorem dX11_mateIn_16 : decode cX11_mateIn 16 = .ok (.goto 9, 3) := by decide +kernel
theorem dX11_mateIn_19 : decode cX11_mateIn 19 = .ok (.aload_n 0, 1) := by decide +kernel
theorem dX11_mateIn_20 : decode cX11_mateIn 20 = .ok (.getfield 27, 3) := by decide +kernel
theorem dX11_mateIn_23 : decode cX11_mateIn 23 = .ok (.iload_n 1, 1) := by decide +kernel
theorem dX11_mateIn_24 : decode cX11_mateIn 24 = .ok (.iaload, 1) := by decide +kernel
theorem dX11_mateIn_25 : decode cX11_mateIn 25 = .ok (.ireturn, 1) := by decide +kernel
set_option maxRecDepth 100000 in
theorem c_M_mateIn (σ : MS) (p0 : Int32) (p1 : Int32) : Ct z (wM z τ) rI eqA yX11_mateIn cX11_mateIn 3 (some .int) 1 0 0 [.ref 0, .int p0, .int p1] σ ((M_mateIn σ p0 p1).map fun r => (r, σ)) := by
  refine Ct.of (by decide) (Nat.le_of_ble_eq_true rfl) (fun ad x hC hR _ => ?_)
  show AT z x 3 (wM z τ) rI (eqA ad) 0 0 0 0 ad 0 [(0, .ref 0), (1, .int p0), (2, .int p1)] [] σ ((M_mateIn σ p0 p1).map fun r => (r, σ))
  unfold M_mateIn
  refine at_aload_n (j := 0) hC rfl rfl dX11_mateIn_0 ?_
  refine gf_X11_27 hC dX11_mateIn_1 ?_
  refine at_iload_n (j := 1) hC rfl rfl dX11_mateIn_4 ?_
  refine ap_iald hC 6 dX11_mateIn_5 cl_6 (fun v1 => ?_)
  refine at_iload_n (j := 2) hC rfl rfl dX11_mateIn_6 ?_
  refine ap_icmp_ne (tgt := 19) hC dX11_mateIn_7 rfl (fun _ => ?_) (fun _ => ?_)
  · refine at_aload_n (j := 0) hC rfl rfl dX11_mateIn_19 ?_
    refine gf_X11_27 hC dX11_mateIn_20 ?_
    refine at_iload_n (j := 1) hC rfl rfl dX11_mateIn_23 ?_
    refine ap_iald hC 6 dX11_mateIn_24 cl_6 (fun v2 => ?_)
    exact at_iret (F := eqA ad) (ra := rI) hC dX11_mateIn_25 rfl (Nat.le_refl 0) (Nat.le_refl 0) rfl
  · refine at_aload_n (j := 0) hC rfl rfl dX11_mateIn_10 ?_
    refine gf_X11_30 hC dX11_mateIn_11 ?_
    refine at_iload_n (j := 1) hC rfl rfl dX11_mateIn_14 ?_
    refine ap_iald hC 7 dX11_mateIn_15 cl_7 (fun v3 => ?_)
    refine at_goto (tgt := 25) hC dX11_mateIn_16 rfl ?_
    exact at_iret (F := eqA ad) (ra := rI) hC dX11_mateIn_25 rfl (Nat.le_refl 0) (Nat.le_refl 0) rfl
theorem dX11_weddings_0 : decode cX11_weddings 0 = .ok (.iconst 0, 1) := by decide +kernel
theorem dX11_weddings_1 : decode cX11_weddings 1 = .ok (.istore_n 3, 1) := by decide +kernel
theorem dX11_weddings_2 : decode cX11_weddings 2 = .ok (.iconst 0, 1) := by decide +kernel
theorem dX11_weddings_3 : decode cX11_weddings 3 = .ok (.istore 4, 2) := by decide +kernel
theorem dX11_weddings_5 : decode cX11_weddings 5 = .ok (.iload 4, 2) := by decide +kernel
theorem dX11_weddings_7 : decode cX11_weddings 7 = .ok (.aload_n 0, 1) := by decide +kernel
theorem dX11_weddings_8 : decode cX11_weddings 8 = .ok (.getfield 140, 3) := by decide +kernel
theorem dX11_weddings_11 : decode cX11_weddings 11 = .ok (.if_icmp .ge 71, 3) := by decide +kernel
theorem dX11_weddings_14 : decode cX11_weddings 14 = .ok (.iload_n 3, 1) := by decide +kernel
theorem dX11_weddings_15 : decode cX11_weddings 15 = .ok (.aload_n 0, 1) := by decide +kernel
theorem dX11_weddings_16 : decode cX11_weddings 16 = .ok (.getfield 111, 3) := by decide +kernel
theorem dX11_weddings_19 : decode cX11_weddings 19 = .ok (.iload 4, 2) := by decide +kernel
theorem dX11_weddings_21 : decode cX11_weddings 21 = .ok (.baload, 1) := by decide +kernel
theorem dX11_weddings_22 : decode cX11_weddings 22 = .ok (.ifCond .eq 51, 3) := by decide +kernel
theorem dX11_weddings_25 : decode cX11_weddings 25 = .ok (.aload_n 0, 1) := by decide +kernel
theorem dX11_weddings_26 : decode cX11_weddings 26 = .ok (.getfield 24, 3) := by decide +kernel
theorem dX11_weddings_29 : decode cX11_weddings 29 = .ok (.iload 4, 2) := by decide +kernel
theorem dX11_weddings_31 : decode cX11_weddings 31 = .ok (.iaload, 1) := by decide +kernel
theorem dX11_weddings_32 : decode cX11_weddings 32 = .ok (.iconst 1, 1) := by decide +kernel
theorem dX11_weddings_33 : decode cX11_weddings 33 = .ok (.if_icmp .ne 40, 3) := by decide +kernel
theorem dX11_weddings_36 : decode cX11_weddings 36 = .ok (.aload_n 0, 1) := by decide +kernel
theorem dX11_weddings_37 : decode cX11_weddings 37 = .ok (.getfield 27, 3) := by decide +kernel
theorem dX11_weddings_40 : decode cX11_weddings 40 = .ok (.iload 4, 2) := by decide +kernel
theorem dX11_weddings_42 : decode cX11_weddings 42 = .ok (.iaload, 1) := by decide +kernel
theorem dX11_weddings_43 : decode cX11_weddings 43 = .ok (.iload_n 1, 1) := by decide +kernel
theorem dX11_weddings_44 : decode cX11_weddings 44 = .ok (.if_icmp .eq 14, 3) := by decide +kernel
theorem dX11_weddings_47 : decode cX11_weddings 47 = .ok (.aload_n 0, 1) := by decide +kernel
theorem dX11_weddings_48 : decode cX11_weddings 48 = .ok (.getfield 30, 3) := by decide +kernel
theorem dX11_weddings_51 : decode cX11_weddings 51 = .ok (.iload 4, 2) := by decide +kernel
theorem dX11_weddings_53 : decode cX11_weddings 53 = .ok (.iaload, 1) := by decide +kernel
theorem dX11_weddings_54 : decode cX11_weddings 54 = .ok (.iload_n 1, 1) := by decide +kernel
theorem dX11_weddings_55 : decode cX11_weddings 55 = .ok (.if_icmp .ne 18, 3) := by decide +kernel
theorem dX11_weddings_58 : decode cX11_weddings 58 = .ok (.aload_n 0, 1) := by decide +kernel
theorem dX11_weddings_59 : decode cX11_weddings 59 = .ok (.getfield 33, 3) := by decide +kernel
theorem dX11_weddings_62 : decode cX11_weddings 62 = .ok (.iload 4, 2) := by decide +kernel
theorem dX11_weddings_64 : decode cX11_weddings 64 = .ok (.iaload, 1) := by decide +kernel
theorem dX11_weddings_65 : decode cX11_weddings 65 = .ok (.iload_n 2, 1) := by decide +kernel
theorem dX11_weddings_66 : decode cX11_weddings 66 = .ok (.if_icmp .gt 7, 3) := by decide +kernel
theorem dX11_weddings_69 : decode cX11_weddings 69 = .ok (.iconst 1, 1) := by decide +kernel
theorem dX11_weddings_70 : decode cX11_weddings 70 = .ok (.goto 4, 3) := by decide +kernel
theorem dX11_weddings_73 : decode cX11_weddings 73 = .ok (.iconst 0, 1) := by decide +kernel
theorem dX11_weddings_74 : decode cX11_weddings 74 = .ok (.iadd, 1) := by decide +kernel
theorem dX11_weddings_75 : decode cX11_weddings 75 = .ok (.istore_n 3, 1) := by decide +kernel
theorem dX11_weddings_76 : decode cX11_weddings 76 = .ok (.iinc 4 1, 3) := by decide +kernel
theorem dX11_weddings_79 : decode cX11_weddings 79 = .ok (.goto (-74), 3) := by decide +kernel
theorem dX11_weddings_82 : decode cX11_weddings 82 = .ok (.iload_n 3, 1) := by decide +kernel
theorem dX11_weddings_83 : decode cX11_weddings 83 = .ok (.ireturn, 1) := by decide +kernel
set_option maxRecDepth 100000 in
theorem t_M_weddings_J74 (hC : CX z ad x cX11_weddings RX11 5 (some .int)) (hR : x.2.2.1 = rmk 1 0 0) (σ : MS) (k_5 : Int32 → Int32 → Int32 → Int32 → Option Int32) (hk_5 : ∀ (a1 : Int32) (a2 : Int32) (a3 : Int32) (a4 : Int32), AT z x 5 (wM z τ) rI (eqA ad) 0 0 0 0 ad 5 [(0, .ref 0), (1, .int a1), (2, .int a2), (3, .int a3), (4, .int a4)] [] σ ((k_5 a1 a2 a3 a4).map fun r => (r, σ))) (a1 : Int32) (a2 : Int32) (a4 : Int32) (s0 : Int32) (s1 : Int32) : AT z x 5 (wM z τ) rI (eqA ad) 0 0 0 0 ad 74 [(0, .ref 0), (1, .int a1), (2, .int a2), (4, .int a4)] [.int s0, .int s1] σ ((M_weddings_J74 k_5 σ a1 a2 a4 s0 s1).map fun r => (r, σ)) := by
  unfold M_weddings_J74
  refine at_iadd hC dX11_weddings_74 ?_
  refine at_istore_n (lv' := [(3, .int (s1 + s0)), (0, .ref 0), (1, .int a1), (2, .int a2), (4, .int a4)]) hC rfl dX11_weddings_75 (by decide) rfl ?_
  refine at_iinc (j := 4) (v := a4 + 1) (lv' := [(4, .int (a4 + 1)), (3, .int (s1 + s0)), (0, .ref 0), (1, .int a1), (2, .int a2)]) hC dX11_weddings_76 rfl rfl (by decide) rfl ?_
  refine at_goto (tgt := 5) hC dX11_weddings_79 rfl ?_
  refine at_drop (lv' := [(0, .ref 0), (1, .int a1), (2, .int a2), (3, .int (s1 + s0)), (4, .int (a4 + 1))]) [2, 3, 4, 1, 0] rfl ?_
  exact hk_5 a1 a2 (s1 + s0) (a4 + 1)
set_option maxRecDepth 100000 in
theorem t_M_weddings_J73 (hC : CX z ad x cX11_weddings RX11 5 (some .int)) (hR : x.2.2.1 = rmk 1 0 0) (σ : MS) (k_5 : Int32 → Int32 → Int32 → Int32 → Option Int32) (hk_5 : ∀ (a1 : Int32) (a2 : Int32) (a3 : Int32) (a4 : Int32), AT z x 5 (wM z τ) rI (eqA ad) 0 0 0 0 ad 5 [(0, .ref 0), (1, .int a1), (2, .int a2), (3, .int a3), (4, .int a4)] [] σ ((k_5 a1 a2 a3 a4).map fun r => (r, σ))) (a1 : Int32) (a2 : Int32) (a4 : Int32) (s0 : Int32) : AT z x 5 (wM z τ) rI (eqA ad) 0 0 0 0 ad 73 [(0, .ref 0), (1, .int a1), (2, .int a2), (4, .int a4)] [.int s0] σ ((M_weddings_J73 k_5 σ a1 a2 a4 s0).map fun r => (r, σ)) := by
  unfold M_weddings_J73
  refine at_iconst hC ic_0 dX11_weddings_73 ?_
  exact t_M_weddings_J74 hC hR σ k_5 hk_5 a1 a2 a4 0 s0
set_option maxRecDepth 100000 in
theorem t_M_weddings_J58 (hC : CX z ad x cX11_weddings RX11 5 (some .int)) (hR : x.2.2.1 = rmk 1 0 0) (σ : MS) (k_5 : Int32 → Int32 → Int32 → Int32 → Option Int32) (hk_5 : ∀ (a1 : Int32) (a2 : Int32) (a3 : Int32) (a4 : Int32), AT z x 5 (wM z τ) rI (eqA ad) 0 0 0 0 ad 5 [(0, .ref 0), (1, .int a1), (2, .int a2), (3, .int a3), (4, .int a4)] [] σ ((k_5 a1 a2 a3 a4).map fun r => (r, σ))) (a1 : Int32) (a2 : Int32) (a4 : Int32) (s0 : Int32) : AT z x 5 (wM z τ) rI (eqA ad) 0 0 0 0 ad 58 [(0, .ref 0), (1, .int a1), (2, .int a2), (4, .int a4)] [.int s0] σ ((M_weddings_J58 k_5 σ a1 a2 a4 s0).map fun r => (r, σ)) := by
  unfold M_weddings_J58
  refine at_aload_n (j := 0) hC rfl rfl dX11_weddings_58 ?_
  refine gf_X11_33 hC dX11_weddings_59 ?_
  refine at_iload (j := 3) hC rfl dX11_weddings_62 ?_
  refine ap_iald hC 8 dX11_weddings_64 cl_8 (fun v4 => ?_)
  refine at_iload_n (j := 2) hC rfl rfl dX11_weddings_65 ?_
  refine ap_icmp_gt (tgt := 73) hC dX11_weddings_66 rfl (fun _ => ?_) (fun _ => ?_)
  · exact t_M_weddings_J73 hC hR σ k_5 hk_5 a1 a2 a4 s0
  · refine at_iconst hC ic_1 dX11_weddings_69 ?_
    refine at_goto (tgt := 74) hC dX11_weddings_70 rfl ?_
    exact t_M_weddings_J74 hC hR σ k_5 hk_5 a1 a2 a4 1 s0
set_option maxRecDepth 100000 in
theorem t_M_weddings_L5 (hC : CX z ad x cX11_weddings RX11 5 (some .int)) (hR : x.2.2.1 = rmk 1 0 0) (σ : MS) (n : Nat) (a1 : Int32) (a2 : Int32) (a3 : Int32) (a4 : Int32) : AT z x 5 (wM z τ) rI (eqA ad) 0 0 0 0 ad 5 [(0, .ref 0), (1, .int a1), (2, .int a2), (3, .int a3), (4, .int a4)] [] σ ((M_weddings_L5 n σ a1 a2 a3 a4).map fun r => (r, σ)) := by
  revert a1 a2 a3 a4
  show ∀ (a1 : Int32) (a2 : Int32) (a3 : Int32) (a4 : Int32), AT z x 5 (wM z τ) rI (eqA ad) 0 0 0 0 ad 5 [(0, .ref 0), (1, .int a1), (2, .int a2), (3, .int a3), (4, .int a4)] [] σ ((M_weddings_L5_r σ n a1 a2 a3 a4).map fun r => (r, σ))
  induction n with
  | zero => intro a1 a2 a3 a4; exact ap_none
  | succ n hk_5 =>
    intro a1 a2 a3 a4
    unfold M_weddings_L5_r
    refine at_iload (j := 4) hC rfl dX11_weddings_5 ?_
    refine at_aload_n (j := 0) hC rfl rfl dX11_weddings_7 ?_
    refine gf_X11_140 hC dX11_weddings_8 ?_
    refine ap_icmp_ge (tgt := 82) hC dX11_weddings_11 rfl (fun _ => ?_) (fun _ => ?_)
    · refine at_iload_n (j := 3) hC rfl rfl dX11_weddings_82 ?_
      exact at_iret (F := eqA ad) (ra := rI) hC dX11_weddings_83 rfl (Nat.le_refl 0) (Nat.le_refl 0) rfl
    · refine at_iload_n (j := 3) hC rfl rfl dX11_weddings_14 ?_
      refine at_aload_n (j := 0) hC rfl rfl dX11_weddings_15 ?_
      refine gf_X11_111 hC dX11_weddings_16 ?_
      refine at_iload (j := 4) hC rfl dX11_weddings_19 ?_
      refine ap_zald hC 32 dX11_weddings_21 cl_32 (fun v1 => ?_)
      refine ap_if_eq (tgt := 73) hC dX11_weddings_22 rfl (fun _ => ?_) (fun _ => ?_)
      · refine at_drop (lv' := [(0, .ref 0), (1, .int a1), (2, .int a2), (4, .int a4)]) [0, 1, 2, 4] rfl ?_
        exact t_M_weddings_J73 hC hR σ (M_weddings_L5_r σ n) hk_5 a1 a2 a4 a3
      · refine at_aload_n (j := 0) hC rfl rfl dX11_weddings_25 ?_
        refine gf_X11_24 hC dX11_weddings_26 ?_
        refine at_iload (j := 4) hC rfl dX11_weddings_29 ?_
        refine ap_iald hC 5 dX11_weddings_31 cl_5 (fun v2 => ?_)
        refine at_iconst hC ic_1 dX11_weddings_32 ?_
        refine ap_icmp_ne (tgt := 73) hC dX11_weddings_33 rfl (fun _ => ?_) (fun _ => ?_)
        · refine at_drop (lv' := [(0, .ref 0), (1, .int a1), (2, .int a2), (4, .int a4)]) [0, 1, 2, 4] rfl ?_
          exact t_M_weddings_J73 hC hR σ (M_weddings_L5_r σ n) hk_5 a1 a2 a4 a3
        · refine at_aload_n (j := 0) hC rfl rfl dX11_weddings_36 ?_
          refine gf_X11_27 hC dX11_weddings_37 ?_
          refine at_iload (j := 4) hC rfl dX11_weddings_40 ?_
          refine ap_iald hC 6 dX11_weddings_42 cl_6 (fun v3 => ?_)
          refine at_iload_n (j := 1) hC rfl rfl dX11_weddings_43 ?_
          refine ap_icmp_eq (tgt := 58) hC dX11_weddings_44 rfl (fun _ => ?_) (fun _ => ?_)
          · refine at_drop (lv' := [(0, .ref 0), (1, .int a1), (2, .int a2), (4, .int a4)]) [0, 1, 2, 4] rfl ?_
            exact t_M_weddings_J58 hC hR σ (M_weddings_L5_r σ n) hk_5 a1 a2 a4 a3
          · refine at_aload_n (j := 0) hC rfl rfl dX11_weddings_47 ?_
            refine gf_X11_30 hC dX11_weddings_48 ?_
            refine at_iload (j := 4) hC rfl dX11_weddings_51 ?_
            refine ap_iald hC 7 dX11_weddings_53 cl_7 (fun v5 => ?_)
            refine at_iload_n (j := 1) hC rfl rfl dX11_weddings_54 ?_
            refine ap_icmp_ne (tgt := 73) hC dX11_weddings_55 rfl (fun _ => ?_) (fun _ => ?_)
            · refine at_drop (lv' := [(0, .ref 0), (1, .int a1), (2, .int a2), (4, .int a4)]) [0, 1, 2, 4] rfl ?_
              exact t_M_weddings_J73 hC hR σ (M_weddings_L5_r σ n) hk_5 a1 a2 a4 a3
            · refine at_drop (lv' := [(0, .ref 0), (1, .int a1), (2, .int a2), (4, .int a4)]) [0, 1, 2, 4] rfl ?_
              exact t_M_weddings_J58 hC hR σ (M_weddings_L5_r σ n) hk_5 a1 a2 a4 a3
set_option maxRecDepth 100000 in
theorem c_M_weddings (σ : MS) (p0 : Int32) (p1 : Int32) : Ct z (wM z τ) rI eqA yX11_weddings cX11_weddings 5 (some .int) 1 0 0 [.ref 0, .int p0, .int p1] σ ((M_weddings σ p0 p1).map fun r => (r, σ)) := by
  refine Ct.of (by decide) (Nat.le_of_ble_eq_true rfl) (fun ad x hC hR _ => ?_)
  show AT z x 5 (wM z τ) rI (eqA ad) 0 0 0 0 ad 0 [(0, .ref 0), (1, .int p0), (2, .int p1)] [] σ ((M_weddings σ p0 p1).map fun r => (r, σ))
  unfold M_weddings
  refine at_iconst hC ic_0 dX11_weddings_0 ?_
  refine at_istore_n (lv' := [(3, .int 0), (0, .ref 0), (1, .int p0), (2, .int p1)]) hC rfl dX11_weddings_1 (by decide) rfl ?_
  refine at_iconst hC ic_0 dX11_weddings_2 ?_
  refine at_istore (lv' := [(4, .int 0), (3, .int 0), (0, .ref 0), (1, .int p0), (2, .int p1)]) hC dX11_weddings_3 (by decide) rfl ?_
  refine at_drop (lv' := [(0, .ref 0), (1, .int p0), (2, .int p1), (3, .int 0), (4, .int 0)]) [2, 3, 4, 1, 0] rfl ?_
  exact t_M_weddings_L5 hC hR σ 100000 p0 p1 0 0
end G
