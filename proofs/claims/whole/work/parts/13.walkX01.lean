section G
variable {z : ZZ} {x : XX} {ad : Nat → Nat} {σ : MS}
theorem dX0_clear_0 : decode cX0_clear 0 = .ok (.aload_n 0, 1) := by decide +kernel
theorem dX0_clear_1 : decode cX0_clear 1 = .ok (.iconst 0, 1) := by decide +kernel
theorem dX0_clear_2 : decode cX0_clear 2 = .ok (.putfield 30, 3) := by decide +kernel
theorem dX0_clear_5 : decode cX0_clear 5 = .ok (.aload_n 0, 1) := by decide +kernel
theorem dX0_clear_6 : decode cX0_clear 6 = .ok (.iconst 0, 1) := by decide +kernel
theorem dX0_clear_7 : decode cX0_clear 7 = .ok (.putfield 34, 3) := by decide +kernel
theorem dX0_clear_10 : decode cX0_clear 10 = .ok (.aload_n 0, 1) := by decide +kernel
theorem dX0_clear_11 : decode cX0_clear 11 = .ok (.iconst 0, 1) := by decide +kernel
theorem dX0_clear_12 : decode cX0_clear 12 = .ok (.putfield 38, 3) := by decide +kernel
theorem dX0_clear_15 : decode cX0_clear 15 = .ok (.aload_n 0, 1) := by decide +kernel
theorem dX0_clear_16 : decode cX0_clear 16 = .ok (.getfield 24, 3) := by decide +kernel
theorem dX0_clear_19 : decode cX0_clear 19 = .ok (.sipush 10000, 3) := by decide +kernel
theorem dX0_clear_22 : decode cX0_clear 22 = .ok (.invokestatic 41, 3) := by decide +kernel
theorem dX0_clear_25 : decode cX0_clear 25 = .ok (.return_, 1) := by decide +kernel
set_option maxRecDepth 100000 in
theorem c_Ac_clear (τ : XS) (t0 : Nat) : Ct z (wX z σ) rU eqA yX0_clear cX0_clear 1 none 5 0 0 [.ref (80 + 7 * t0)] τ (Ac_clear τ t0) := by
  refine Ct.of (by decide) (Nat.le_of_ble_eq_true rfl) (fun ad x hC hR _ => ?_)
  show AT z x 1 (wX z σ) rU (eqA ad) 0 0 0 0 ad 0 [(0, .ref (80 + 7 * t0))] [] τ (Ac_clear τ t0)
  unfold Ac_clear
  refine at_aload_n (j := 0) hC rfl rfl dX0_clear_0 ?_
  refine at_iconst hC ic_0 dX0_clear_1 ?_
  refine at_gA (fun hg1 => ?_)
  refine at_put (C := RX0) (T := TX0) (N := 10) (ci := 0) (j := 1) (ty := .boolean) (ty0 := tyX0) hC (80 + 7 * t0) dX0_clear_2 inX0 tyX0_ok nmX0 (cla hg1) rfl (by decide) lf_X0_30 rfl rfl (by decide +kernel) (nbz (Or.inl rfl)) (ftz (Or.inl rfl)) (Nat.le_of_ble_eq_true rfl) (sta1 hg1) ?_
  refine at_aload_n (j := 0) hC rfl rfl dX0_clear_5 ?_
  refine at_iconst hC ic_0 dX0_clear_6 ?_
  refine at_put (C := RX0) (T := TX0) (N := 10) (ci := 0) (j := 2) (ty := .int) (ty0 := tyX0) hC (80 + 7 * t0) dX0_clear_7 inX0 tyX0_ok nmX0 (cla hg1) rfl (by decide) lf_X0_34 rfl rfl (by decide +kernel) rfl rfl (Nat.le_of_ble_eq_true rfl) (sta2 hg1) ?_
  refine at_aload_n (j := 0) hC rfl rfl dX0_clear_10 ?_
  refine at_iconst hC ic_0 dX0_clear_11 ?_
  refine at_put (C := RX0) (T := TX0) (N := 10) (ci := 0) (j := 9) (ty := .int) (ty0 := tyX0) hC (80 + 7 * t0) dX0_clear_12 inX0 tyX0_ok nmX0 (cla hg1) rfl (by decide) lf_X0_38 rfl rfl (by decide +kernel) rfl rfl (Nat.le_of_ble_eq_true rfl) (sta9 hg1) ?_
  refine at_aload_n (j := 0) hC rfl rfl dX0_clear_15 ?_
  refine at_get (v := .ref (80 + 7 * t0 + 5)) (C := RX0) (T := TX0) (N := 10) (ci := 0) (j := 7) hC (80 + 7 * t0) dX0_clear_16 inX0 (cla hg1) rfl (by decide) lf_X0_24 rfl rfl ?_
  refine at_sipush hC si_10000 dX0_clear_19 ?_
  refine at_fill (f := tA (xTI (xTI (xTI τ t0 1 0) t0 2 0) t0 9 0) t0 7) (mk := fun f => xTA (xTI (xTI (xTI τ t0 1 0) t0 2 0) t0 9 0) t0 7 f) (N := 8) (q := 80 + 7 * t0 + 5) hC hR lk_X0_41 dX0_clear_22 (fun ad => cla_5 hg1) (fun ad g => sta_5 hg1) (fun ad f => cla_u5 hg1) (fun ad f g => sta_u5 hg1) (by decide) (by decide) (Nat.le_of_ble_eq_true rfl) ⟨Nat.le_refl 0, Nat.le_refl 0⟩ ?_
  exact at_vret (F := eqA ad) (ra := rU) hC dX0_clear_25 rfl (Nat.le_refl 0) (Nat.le_refl 0) rfl
theorem dX0_hasClause_0 : decode cX0_hasClause 0 = .ok (.iload_n 1, 1) := by decide +kernel
theorem dX0_hasClause_1 : decode cX0_hasClause 1 = .ok (.ifCond .lt 15, 3) := by decide +kernel
theorem dX0_hasClause_4 : decode cX0_hasClause 4 = .ok (.iload_n 1, 1) := by decide +kernel
theorem dX0_hasClause_5 : decode cX0_hasClause 5 = .ok (.aload_n 0, 1) := by decide +kernel
theorem dX0_hasClause_6 : decode cX0_hasClause 6 = .ok (.getfield 34, 3) := by decide +kernel
theorem dX0_hasClause_9 : decode cX0_hasClause 9 = .ok (.if_icmp .ge 7, 3) := by decide +kernel
theorem dX0_hasClause_12 : decode cX0_hasClause 12 = .ok (.iconst 1, 1) := by decide +kernel
theorem dX0_hasClause_13 : decode cX0_hasClause 13 = .ok (.goto 4, 3) := by decide +kernel
theorem dX0_hasClause_16 : decode cX0_hasClause 16 = .ok (.iconst 0, 1) := by decide +kernel
theorem dX0_hasClause_17 : decode cX0_hasClause 17 = .ok (.ireturn, 1) := by decide +kernel
set_option maxRecDepth 100000 in
theorem c_Ac_hasClause (τ : XS) (t0 : Nat) (p0 : Int32) : Ct z (wX z σ) rI eqA yX0_hasClause cX0_hasClause 2 (some .boolean) 1 0 0 [.ref (80 + 7 * t0), .int p0] τ ((Ac_hasClause τ t0 p0).map fun r => (r, τ)) := by
  refine Ct.of (by decide) (Nat.le_of_ble_eq_true rfl) (fun ad x hC hR _ => ?_)
  show AT z x 2 (wX z σ) rI (eqA ad) 0 0 0 0 ad 0 [(0, .ref (80 + 7 * t0)), (1, .int p0)] [] τ ((Ac_hasClause τ t0 p0).map fun r => (r, τ))
  unfold Ac_hasClause
  refine at_iload_n (j := 1) hC rfl rfl dX0_hasClause_0 ?_
  refine ap_if_lt (tgt := 16) hC dX0_hasClause_1 rfl (fun _ => ?_) (fun _ => ?_)
  · refine at_iconst hC ic_0 dX0_hasClause_16 ?_
    exact at_zret (F := eqA ad) (ra := rI) hC nb0 dX0_hasClause_17 rfl (Nat.le_refl 0) (Nat.le_refl 0) rfl
  · refine at_iload_n (j := 1) hC rfl rfl dX0_hasClause_4 ?_
    refine at_aload_n (j := 0) hC rfl rfl dX0_hasClause_5 ?_
    refine ap_gA (fun hg1 => ?_)
    refine at_get (v := .int (tF τ t0 2)) (C := RX0) (T := TX0) (N := 10) (ci := 0) (j := 2) hC (80 + 7 * t0) dX0_hasClause_6 inX0 (cla hg1) rfl (by decide) lf_X0_34 rfl rfl ?_
    refine ap_icmp_ge (tgt := 16) hC dX0_hasClause_9 rfl (fun _ => ?_) (fun _ => ?_)
    · refine at_iconst hC ic_0 dX0_hasClause_16 ?_
      exact at_zret (F := eqA ad) (ra := rI) hC nb0 dX0_hasClause_17 rfl (Nat.le_refl 0) (Nat.le_refl 0) rfl
    · refine at_iconst hC ic_1 dX0_hasClause_12 ?_
      refine at_goto (tgt := 17) hC dX0_hasClause_13 rfl ?_
      exact at_zret (F := eqA ad) (ra := rI) hC nb1 dX0_hasClause_17 rfl (Nat.le_refl 0) (Nat.le_refl 0) rfl
theorem dX0_emit_0 : decode cX0_emit 0 = .ok (.aload_n 0, 1) := by decide +kernel
theorem dX0_emit_1 : decode cX0_emit 1 = .ok (.getfield 38, 3) := by decide +kernel
theorem dX0_emit_4 : decode cX0_emit 4 = .ok (.sipush 200, 3) := by decide +kernel
theorem dX0_emit_7 : decode cX0_emit 7 = .ok (.if_icmp .ge 20, 3) := by decide +kernel
theorem dX0_emit_10 : decode cX0_emit 10 = .ok (.aload_n 0, 1) := by decide +kernel
theorem dX0_emit_11 : decode cX0_emit 11 = .ok (.getfield 27, 3) := by decide +kernel
theorem dX0_emit_14 : decode cX0_emit 14 = .ok (.aload_n 0, 1) := by decide +kernel
theorem dX0_emit_15 : decode cX0_emit 15 = .ok (.dup, 1) := by decide +kernel
theorem dX0_emit_16 : decode cX0_emit 16 = .ok (.getfield 38, 3) := by decide +kernel
theorem dX0_emit_19 : decode cX0_emit 19 = .ok (.dup_x1, 1) := by decide +kernel
theorem dX0_emit_20 : decode cX0_emit 20 = .ok (.iconst 1, 1) := by decide +kernel
theorem dX0_emit_21 : decode cX0_emit 21 = .ok (.iadd, 1) := by decide +kernel
theorem dX0_emit_22 : decode cX0_emit 22 = .ok (.putfield 38, 3) := by decide +kernel
theorem dX0_emit_25 : decode cX0_emit 25 = .ok (.iload_n 1, 1) := by decide +kernel
theorem dX0_emit_26 : decode cX0_emit 26 = .ok (.iastore, 1) := by decide +kernel
theorem dX0_emit_27 : decode cX0_emit 27 = .ok (.return_, 1) := by decide +kernel
set_option maxRecDepth 100000 in
theorem c_Ac_emit (τ : XS) (t0 : Nat) (p0 : Int32) : Ct z (wX z σ) rU eqA yX0_emit cX0_emit 2 none 1 0 0 [.ref (80 + 7 * t0), .int p0] τ (Ac_emit τ t0 p0) := by
  refine Ct.of (by decide) (Nat.le_of_ble_eq_true rfl) (fun ad x hC hR _ => ?_)
  show AT z x 2 (wX z σ) rU (eqA ad) 0 0 0 0 ad 0 [(0, .ref (80 + 7 * t0)), (1, .int p0)] [] τ (Ac_emit τ t0 p0)
  unfold Ac_emit
  refine at_aload_n (j := 0) hC rfl rfl dX0_emit_0 ?_
  refine at_gA (fun hg1 => ?_)
  refine at_get (v := .int (tF τ t0 9)) (C := RX0) (T := TX0) (N := 10) (ci := 0) (j := 9) hC (80 + 7 * t0) dX0_emit_1 inX0 (cla hg1) rfl (by decide) lf_X0_38 rfl rfl ?_
  refine at_sipush hC si_200 dX0_emit_4 ?_
  refine at_icmp_ge (tgt := 27) hC dX0_emit_7 rfl (fun _ => ?_) (fun _ => ?_)
  · exact at_vret (F := eqA ad) (ra := rU) hC dX0_emit_27 rfl (Nat.le_refl 0) (Nat.le_refl 0) rfl
  · refine at_aload_n (j := 0) hC rfl rfl dX0_emit_10 ?_
    refine at_get (v := .ref (80 + 7 * t0 + 6)) (C := RX0) (T := TX0) (N := 10) (ci := 0) (j := 8) hC (80 + 7 * t0) dX0_emit_11 inX0 (cla hg1) rfl (by decide) lf_X0_27 rfl rfl ?_
    refine at_aload_n (j := 0) hC rfl rfl dX0_emit_14 ?_
    refine at_dup hC rfl dX0_emit_15 ?_
    refine at_get (v := .int (tF τ t0 9)) (C := RX0) (T := TX0) (N := 10) (ci := 0) (j := 9) hC (80 + 7 * t0) dX0_emit_16 inX0 (cla hg1) rfl (by decide) lf_X0_38 rfl rfl ?_
    refine at_dup_x1 hC rfl rfl dX0_emit_19 ?_
    refine at_iconst hC ic_1 dX0_emit_20 ?_
    refine at_iadd hC dX0_emit_21 ?_
    refine at_put (C := RX0) (T := TX0) (N := 10) (ci := 0) (j := 9) (ty := .int) (ty0 := tyX0) hC (80 + 7 * t0) dX0_emit_22 inX0 tyX0_ok nmX0 (cla hg1) rfl (by decide) lf_X0_38 rfl rfl (by decide +kernel) rfl rfl (Nat.le_of_ble_eq_true rfl) (sta9 hg1) ?_
    refine at_iload_n (j := 1) hC rfl rfl dX0_emit_25 ?_
    refine at_iast hC (80 + 7 * t0 + 6) dX0_emit_26 (cla_6 hg1) (sta_6 hg1) ?_
    exact at_vret (F := eqA ad) (ra := rU) hC dX0_emit_27 rfl (Nat.le_refl 0) (Nat.le_refl 0) rfl
theorem dX1_isPerson_0 : decode cX1_isPerson 0 = .ok (.iload_n 1, 1) := by decide +kernel
theorem dX1_isPerson_1 : decode cX1_isPerson 1 = .ok (.ifCond .lt 15, 3) := by decide +kernel
theorem dX1_isPerson_4 : decode cX1_isPerson 4 = .ok (.iload_n 1, 1) := by decide +kernel
theorem dX1_isPerson_5 : decode cX1_isPerson 5 = .ok (.aload_n 0, 1) := by decide +kernel
theorem dX1_isPerson_6 : decode cX1_isPerson 6 = .ok (.getfield 45, 3) := by decide +kernel
theorem dX1_isPerson_9 : decode cX1_isPerson 9 = .ok (.if_icmp .ge 7, 3) := by decide +kernel
theorem dX1_isPerson_12 : decode cX1_isPerson 12 = .ok (.iconst 1, 1) := by decide +kernel
theorem dX1_isPerson_13 : decode cX1_isPerson 13 = .ok (.goto 4, 3) := by decide +kernel
theorem dX1_isPerson_16 : decode cX1_isPerson 16 = .ok (.iconst 0, 1) := by decide +kernel
theorem dX1_isPerson_17 : decode cX1_isPerson 17 = .ok (.ireturn, 1) := by decide +kernel
set_option maxRecDepth 100000 in
theorem c_Bk_isPerson (τ : XS) (p0 : Int32) : Ct z (wX z σ) rI eqA yX1_isPerson cX1_isPerson 2 (some .boolean) 1 0 0 [.ref 37, .int p0] τ ((Bk_isPerson τ p0).map fun r => (r, τ)) := by
  refine Ct.of (by decide) (Nat.le_of_ble_eq_true rfl) (fun ad x hC hR _ => ?_)
  show AT z x 2 (wX z σ) rI (eqA ad) 0 0 0 0 ad 0 [(0, .ref 37), (1, .int p0)] [] τ ((Bk_isPerson τ p0).map fun r => (r, τ))
  unfold Bk_isPerson
  refine at_iload_n (j := 1) hC rfl rfl dX1_isPerson_0 ?_
  refine ap_if_lt (tgt := 16) hC dX1_isPerson_1 rfl (fun _ => ?_) (fun _ => ?_)
  · refine at_iconst hC ic_0 dX1_isPerson_16 ?_
    exact at_zret (F := eqA ad) (ra := rI) hC nb0 dX1_isPerson_17 rfl (Nat.le_refl 0) (Nat.le_refl 0) rfl
  · refine at_iload_n (j := 1) hC rfl rfl dX1_isPerson_4 ?_
    refine at_aload_n (j := 0) hC rfl rfl dX1_isPerson_5 ?_
    refine gf_X1_45 hC dX1_isPerson_6 ?_
    refine ap_icmp_ge (tgt := 16) hC dX1_isPerson_9 rfl (fun _ => ?_) (fun _ => ?_)
    · refine at_iconst hC ic_0 dX1_isPerson_16 ?_
      exact at_zret (F := eqA ad) (ra := rI) hC nb0 dX1_isPerson_17 rfl (Nat.le_refl 0) (Nat.le_refl 0) rfl
    · refine at_iconst hC ic_1 dX1_isPerson_12 ?_
      refine at_goto (tgt := 17) hC dX1_isPerson_13 rfl ?_
      exact at_zret (F := eqA ad) (ra := rI) hC nb1 dX1_isPerson_17 rfl (Nat.le_refl 0) (Nat.le_refl 0) rfl
theorem dX1_isMan_0 : decode cX1_isMan 0 = .ok (.aload_n 0, 1) := by decide +kernel
theorem dX1_isMan_1 : decode cX1_isMan 1 = .ok (.iload_n 1, 1) := by decide +kernel
theorem dX1_isMan_2 : decode cX1_isMan 2 = .ok (.invokevirtual 49, 3) := by decide +kernel
theorem dX1_isMan_5 : decode cX1_isMan 5 = .ok (.ifCond .eq 16, 3) := by decide +kernel
theorem dX1_isMan_8 : decode cX1_isMan 8 = .ok (.aload_n 0, 1) := by decide +kernel
theorem dX1_isMan_9 : decode cX1_isMan 9 = .ok (.getfield 9, 3) := by decide +kernel
theorem dX1_isMan_12 : decode cX1_isMan 12 = .ok (.iload_n 1, 1) := by decide +kernel
theorem dX1_isMan_13 : decode cX1_isMan 13 = .ok (.iaload, 1) := by decide +kernel
theorem dX1_isMan_14 : decode cX1_isMan 14 = .ok (.ifCond .ne 7, 3) := by decide +kernel
theorem dX1_isMan_17 : decode cX1_isMan 17 = .ok (.iconst 1, 1) := by decide +kernel
theorem dX1_isMan_18 : decode cX1_isMan 18 = .ok (.goto 4, 3) := by decide +kernel
theorem dX1_isMan_21 : decode cX1_isMan 21 = .ok (.iconst 0, 1) := by decide +kernel
theorem dX1_isMan_22 : decode cX1_isMan 22 = .ok (.ireturn, 1) := by decide +kernel
set_option maxRecDepth 100000 in
theorem c_Bk_isMan (τ : XS) (p0 : Int32) : Ct z (wX z σ) rI eqA yX1_isMan cX1_isMan 2 (some .boolean) 2 0 0 [.ref 37, .int p0] τ ((Bk_isMan τ p0).map fun r => (r, τ)) := by
  refine Ct.of (by decide) (Nat.le_of_ble_eq_true rfl) (fun ad x hC hR _ => ?_)
  show AT z x 2 (wX z σ) rI (eqA ad) 0 0 0 0 ad 0 [(0, .ref 37), (1, .int p0)] [] τ ((Bk_isMan τ p0).map fun r => (r, τ))
  unfold Bk_isMan
  refine at_aload_n (j := 0) hC rfl rfl dX1_isMan_0 ?_
  refine at_iload_n (j := 1) hC rfl rfl dX1_isMan_1 ?_
  refine ap_callVI hC hR lk_X1_49 (c_Bk_isPerson τ p0) dX1_isMan_2 recX1 rfl rfl ⟨by decide, by decide⟩ (Nat.le_of_ble_eq_true rfl) ⟨Nat.le_refl 0, Nat.le_refl 0⟩ (fun r1 _ => ?_)
  refine ap_if_eq (tgt := 21) hC dX1_isMan_5 rfl (fun _ => ?_) (fun _ => ?_)
  · refine at_iconst hC ic_0 dX1_isMan_21 ?_
    exact at_zret (F := eqA ad) (ra := rI) hC nb0 dX1_isMan_22 rfl (Nat.le_refl 0) (Nat.le_refl 0) rfl
  · refine at_aload_n (j := 0) hC rfl rfl dX1_isMan_8 ?_
    refine gf_X1_9 hC dX1_isMan_9 ?_
    refine at_iload_n (j := 1) hC rfl rfl dX1_isMan_12 ?_
    refine ap_iald hC 38 dX1_isMan_13 cl_38 (fun v2 => ?_)
    refine ap_if_ne (tgt := 21) hC dX1_isMan_14 rfl (fun _ => ?_) (fun _ => ?_)
    · refine at_iconst hC ic_0 dX1_isMan_21 ?_
      exact at_zret (F := eqA ad) (ra := rI) hC nb0 dX1_isMan_22 rfl (Nat.le_refl 0) (Nat.le_refl 0) rfl
    · refine at_iconst hC ic_1 dX1_isMan_17 ?_
      refine at_goto (tgt := 22) hC dX1_isMan_18 rfl ?_
      exact at_zret (F := eqA ad) (ra := rI) hC nb1 dX1_isMan_22 rfl (Nat.le_refl 0) (Nat.le_refl 0) rfl
theorem dX1_isWoman_0 : decode cX1_isWoman 0 = .ok (.aload_n 0, 1) := by decide +kernel
theorem dX1_isWoman_1 : decode cX1_isWoman 1 = .ok (.iload_n 1, 1) := by decide +kernel
theorem dX1_isWoman_2 : decode cX1_isWoman 2 = .ok (.invokevirtual 49, 3) := by decide +kernel
theorem dX1_isWoman_5 : decode cX1_isWoman 5 = .ok (.ifCond .eq 17, 3) := by decide +kernel
theorem dX1_isWoman_8 : decode cX1_isWoman 8 = .ok (.aload_n 0, 1) := by decide +kernel
theorem dX1_isWoman_9 : decode cX1_isWoman 9 = .ok (.getfield 9, 3) := by decide +kernel
theorem dX1_isWoman_12 : decode cX1_isWoman 12 = .ok (.iload_n 1, 1) := by decide +kernel
theorem dX1_isWoman_13 : decode cX1_isWoman 13 = .ok (.iaload, 1) := by decide +kernel
theorem dX1_isWoman_14 : decode cX1_isWoman 14 = .ok (.iconst 1, 1) := by decide +kernel
theorem dX1_isWoman_15 : decode cX1_isWoman 15 = .ok (.if_icmp .ne 7, 3) := by decide +kernel
theorem dX1_isWoman_18 : decode cX1_isWoman 18 = .ok (.iconst 1, 1) := by decide +kernel
theorem dX1_isWoman_19 : decode cX1_isWoman 19 = .ok (.goto 4, 3) := by decide +kernel
theorem dX1_isWoman_22 : decode cX1_isWoman 22 = .ok (.iconst 0, 1) := by decide +kernel
theorem dX1_isWoman_23 : decode cX1_isWoman 23 = .ok (.ireturn, 1) := by decide +kernel
set_option maxRecDepth 100000 in
theorem c_Bk_isWoman (τ : XS) (p0 : Int32) : Ct z (wX z σ) rI eqA yX1_isWoman cX1_isWoman 2 (some .boolean) 2 0 0 [.ref 37, .int p0] τ ((Bk_isWoman τ p0).map fun r => (r, τ)) := by
  refine Ct.of (by decide) (Nat.le_of_ble_eq_true rfl) (fun ad x hC hR _ => ?_)
  show AT z x 2 (wX z σ) rI (eqA ad) 0 0 0 0 ad 0 [(0, .ref 37), (1, .int p0)] [] τ ((Bk_isWoman τ p0).map fun r => (r, τ))
  unfold Bk_isWoman
  refine at_aload_n (j := 0) hC rfl rfl dX1_isWoman_0 ?_
  refine at_iload_n (j := 1) hC rfl rfl dX1_isWoman_1 ?_
  refine ap_callVI hC hR lk_X1_49 (c_Bk_isPerson τ p0) dX1_isWoman_2 recX1 rfl rfl ⟨by decide, by decide⟩ (Nat.le_of_ble_eq_true rfl) ⟨Nat.le_refl 0, Nat.le_refl 0⟩ (fun r1 _ => ?_)
  refine ap_if_eq (tgt := 22) hC dX1_isWoman_5 rfl (fun _ => ?_) (fun _ => ?_)
  · refine at_iconst hC ic_0 dX1_isWoman_22 ?_
    exact at_zret (F := eqA ad) (ra := rI) hC nb0 dX1_isWoman_23 rfl (Nat.le_refl 0) (Nat.le_refl 0) rfl
  · refine at_aload_n (j := 0) hC rfl rfl dX1_isWoman_8 ?_
    refine gf_X1_9 hC dX1_isWoman_9 ?_
    refine at_iload_n (j := 1) hC rfl rfl dX1_isWoman_12 ?_
    refine ap_iald hC 38 dX1_isWoman_13 cl_38 (fun v2 => ?_)
    refine at_iconst hC ic_1 dX1_isWoman_14 ?_
    refine ap_icmp_ne (tgt := 22) hC dX1_isWoman_15 rfl (fun _ => ?_) (fun _ => ?_)
    · refine at_iconst hC ic_0 dX1_isWoman_22 ?_
      exact at_zret (F := eqA ad) (ra := rI) hC nb0 dX1_isWoman_23 rfl (Nat.le_refl 0) (Nat.le_refl 0) rfl
    · refine at_iconst hC ic_1 dX1_isWoman_18 ?_
      refine at_goto (tgt := 23) hC dX1_isWoman_19 rfl ?_
      exact at_zret (F := eqA ad) (ra := rI) hC nb1 dX1_isWoman_23 rfl (Nat.le_refl 0) (Nat.le_refl 0) rfl
theorem dX1_isEntry_0 : decode cX1_isEntry 0 = .ok (.iload_n 1, 1) := by decide +kernel
theorem dX1_isEntry_1 : decode cX1_isEntry 1 = .ok (.ifCond .lt 15, 3) := by decide +kernel
theorem dX1_isEntry_4 : decode cX1_isEntry 4 = .ok (.iload_n 1, 1) := by decide +kernel
theorem dX1_isEntry_5 : decode cX1_isEntry 5 = .ok (.aload_n 0, 1) := by decide +kernel
theorem dX1_isEntry_6 : decode cX1_isEntry 6 = .ok (.getfield 53, 3) := by decide +kernel
theorem dX1_isEntry_9 : decode cX1_isEntry 9 = .ok (.if_icmp .ge 7, 3) := by decide +kernel
theorem dX1_isEntry_12 : decode cX1_isEntry 12 = .ok (.iconst 1, 1) := by decide +kernel
theorem dX1_isEntry_13 : decode cX1_isEntry 13 = .ok (.goto 4, 3) := by decide +kernel
theorem dX1_isEntry_16 : decode cX1_isEntry 16 = .ok (.iconst 0, 1) := by decide +kernel
theorem dX1_isEntry_17 : decode cX1_isEntry 17 = .ok (.ireturn, 1) := by decide +kernel
set_option maxRecDepth 100000 in
theorem c_Bk_isEntry (τ : XS) (p0 : Int32) : Ct z (wX z σ) rI eqA yX1_isEntry cX1_isEntry 2 (some .boolean) 1 0 0 [.ref 37, .int p0] τ ((Bk_isEntry τ p0).map fun r => (r, τ)) := by
  refine Ct.of (by decide) (Nat.le_of_ble_eq_true rfl) (fun ad x hC hR _ => ?_)
  show AT z x 2 (wX z σ) rI (eqA ad) 0 0 0 0 ad 0 [(0, .ref 37), (1, .int p0)] [] τ ((Bk_isEntry τ p0).map fun r => (r, τ))
  unfold Bk_isEntry
  refine at_iload_n (j := 1) hC rfl rfl dX1_isEntry_0 ?_
  refine ap_if_lt (tgt := 16) hC dX1_isEntry_1 rfl (fun _ => ?_) (fun _ => ?_)
  · refine at_iconst hC ic_0 dX1_isEntry_16 ?_
    exact at_zret (F := eqA ad) (ra := rI) hC nb0 dX1_isEntry_17 rfl (Nat.le_refl 0) (Nat.le_refl 0) rfl
  · refine at_iload_n (j := 1) hC rfl rfl dX1_isEntry_4 ?_
    refine at_aload_n (j := 0) hC rfl rfl dX1_isEntry_5 ?_
    refine gf_X1_53 hC dX1_isEntry_6 ?_
    refine ap_icmp_ge (tgt := 16) hC dX1_isEntry_9 rfl (fun _ => ?_) (fun _ => ?_)
    · refine at_iconst hC ic_0 dX1_isEntry_16 ?_
      exact at_zret (F := eqA ad) (ra := rI) hC nb0 dX1_isEntry_17 rfl (Nat.le_refl 0) (Nat.le_refl 0) rfl
    · refine at_iconst hC ic_1 dX1_isEntry_12 ?_
      refine at_goto (tgt := 17) hC dX1_isEntry_13 rfl ?_
      exact at_zret (F := eqA ad) (ra := rI) hC nb1 dX1_isEntry_17 rfl (Nat.le_refl 0) (Nat.le_refl 0) rfl
theorem dX1_isReach_0 : decode cX1_isReach 0 = .ok (.iload_n 1, 1) := by decide +kernel
theorem dX1_isReach_1 : decode cX1_isReach 1 = .ok (.iconst (-1), 1) := by decide +kernel
theorem dX1_isReach_2 : decode cX1_isReach 2 = .ok (.if_icmp .lt 15, 3) := by decide +kernel
theorem dX1_isReach_5 : decode cX1_isReach 5 = .ok (.iload_n 1, 1) := by decide +kernel
theorem dX1_isReach_6 : decode cX1_isReach 6 = .ok (.aload_n 0, 1) := by decide +kernel
theorem dX1_isReach_7 : decode cX1_isReach 7 = .ok (.getfield 53, 3) := by decide +kernel
theorem dX1_isReach_10 : decode cX1_isReach 10 = .ok (.if_icmp .gt 7, 3) := by decide +kernel
theorem dX1_isReach_13 : decode cX1_isReach 13 = .ok (.iconst 1, 1) := by decide +kernel
theorem dX1_isReach_14 : decode cX1_isReach 14 = .ok (.goto 4, 3) := by decide +kernel
theorem dX1_isReach_17 : decode cX1_isReach 17 = .ok (.iconst 0, 1) := by decide +kernel
theorem dX1_isReach_18 : decode cX1_isReach 18 = .ok (.ireturn, 1) := by decide +kernel
set_option maxRecDepth 100000 in
theorem c_Bk_isReach (τ : XS) (p0 : Int32) : Ct z (wX z σ) rI eqA yX1_isReach cX1_isReach 2 (some .boolean) 1 0 0 [.ref 37, .int p0] τ ((Bk_isReach τ p0).map fun r => (r, τ)) := by
  refine Ct.of (by decide) (Nat.le_of_ble_eq_true rfl) (fun ad x hC hR _ => ?_)
  show AT z x 2 (wX z σ) rI (eqA ad) 0 0 0 0 ad 0 [(0, .ref 37), (1, .int p0)] [] τ ((Bk_isReach τ p0).map fun r => (r, τ))
  unfold Bk_isReach
  refine at_iload_n (j := 1) hC rfl rfl dX1_isReach_0 ?_
  refine at_iconst hC ic_m1 dX1_isReach_1 ?_
  refine ap_icmp_lt (tgt := 17) hC dX1_isReach_2 rfl (fun _ => ?_) (fun _ => ?_)
  · refine at_iconst hC ic_0 dX1_isReach_17 ?_
    exact at_zret (F := eqA ad) (ra := rI) hC nb0 dX1_isReach_18 rfl (Nat.le_refl 0) (Nat.le_refl 0) rfl
  · refine at_iload_n (j := 1) hC rfl rfl dX1_isReach_5 ?_
    refine at_aload_n (j := 0) hC rfl rfl dX1_isReach_6 ?_
    refine gf_X1_53 hC dX1_isReach_7 ?_
    refine ap_icmp_gt (tgt := 17) hC dX1_isReach_10 rfl (fun _ => ?_) (fun _ => ?_)
    · refine at_iconst hC ic_0 dX1_isReach_17 ?_
      exact at_zret (F := eqA ad) (ra := rI) hC nb0 dX1_isReach_18 rfl (Nat.le_refl 0) (Nat.le_refl 0) rfl
    · refine at_iconst hC ic_1 dX1_isReach_13 ?_
      refine at_goto (tgt := 18) hC dX1_isReach_14 rfl ?_
      exact at_zret (F := eqA ad) (ra := rI) hC nb1 dX1_isReach_18 rfl (Nat.le_refl 0) (Nat.le_refl 0) rfl
theorem dX1_ageOn_0 : decode cX1_ageOn 0 = .ok (.aload_n 0, 1) := by decide +kernel
theorem dX1_ageOn_1 : decode cX1_ageOn 1 = .ok (.iload_n 1, 1) := by decide +kernel
theorem dX1_ageOn_2 : decode cX1_ageOn 2 = .ok (.invokevirtual 49, 3) := by decide +kernel
theorem dX1_ageOn_5 : decode cX1_ageOn 5 = .ok (.ifCond .eq 21, 3) := by decide +kernel
theorem dX1_ageOn_8 : decode cX1_ageOn 8 = .ok (.iconst 0, 1) := by decide +kernel
theorem dX1_ageOn_9 : decode cX1_ageOn 9 = .ok (.iload_n 2, 1) := by decide +kernel
theorem dX1_ageOn_10 : decode cX1_ageOn 10 = .ok (.aload_n 0, 1) := by decide +kernel
theorem dX1_ageOn_11 : decode cX1_ageOn 11 = .ok (.getfield 15, 3) := by decide +kernel
theorem dX1_ageOn_14 : decode cX1_ageOn 14 = .ok (.iload_n 1, 1) := by decide +kernel
theorem dX1_ageOn_15 : decode cX1_ageOn 15 = .ok (.iaload, 1) := by decide +kernel
theorem dX1_ageOn_16 : decode cX1_ageOn 16 = .ok (.isub, 1) := by decide +kernel
theorem dX1_ageOn_17 : decode cX1_ageOn 17 = .ok (.invokestatic 56, 3) := by decide +kernel
theorem dX1_ageOn_20 : decode cX1_ageOn 20 = .ok (.bipush 100, 2) := by decide +kernel
theorem dX1_ageOn_22 : decode cX1_ageOn 22 = .ok (.idiv, 1) := by decide +kernel
theorem dX1_ageOn_23 : decode cX1_ageOn 23 = .ok (.goto 4, 3) := by decide +kernel
theorem dX1_ageOn_26 : decode cX1_ageOn 26 = .ok (.iconst 0, 1) := by decide +kernel
theorem dX1_ageOn_27 : decode cX1_ageOn 27 = .ok (.ireturn, 1) := by decide +kernel
set_option maxRecDepth 100000 in
theorem c_Bk_ageOn (τ : XS) (p0 : Int32) (p1 : Int32) : Ct z (wX z σ) rI eqA yX1_ageOn cX1_ageOn 3 (some .int) 5 0 0 [.ref 37, .int p0, .int p1] τ ((Bk_ageOn τ p0 p1).map fun r => (r, τ)) := by
  refine Ct.of (by decide) (Nat.le_of_ble_eq_true rfl) (fun ad x hC hR _ => ?_)
  show AT z x 3 (wX z σ) rI (eqA ad) 0 0 0 0 ad 0 [(0, .ref 37), (1, .int p0), (2, .int p1)] [] τ ((Bk_ageOn τ p0 p1).map fun r => (r, τ))
  unfold Bk_ageOn
  refine at_aload_n (j := 0) hC rfl rfl dX1_ageOn_0 ?_
  refine at_iload_n (j := 1) hC rfl rfl dX1_ageOn_1 ?_
  refine ap_callVI hC hR lk_X1_49 (c_Bk_isPerson τ p0) dX1_ageOn_2 recX1 rfl rfl ⟨by decide, by decide⟩ (Nat.le_of_ble_eq_true rfl) ⟨Nat.le_refl 0, Nat.le_refl 0⟩ (fun r1 _ => ?_)
  refine ap_if_eq (tgt := 26) hC dX1_ageOn_5 rfl (fun _ => ?_) (fun _ => ?_)
  · refine at_iconst hC ic_0 dX1_ageOn_26 ?_
    exact at_iret (F := eqA ad) (ra := rI) hC dX1_ageOn_27 rfl (Nat.le_refl 0) (Nat.le_refl 0) rfl
  · refine at_iconst hC ic_0 dX1_ageOn_8 ?_
    refine at_iload_n (j := 2) hC rfl rfl dX1_ageOn_9 ?_
    refine at_aload_n (j := 0) hC rfl rfl dX1_ageOn_10 ?_
    refine gf_X1_15 hC dX1_ageOn_11 ?_
    refine at_iload_n (j := 1) hC rfl rfl dX1_ageOn_14 ?_
    refine ap_iald hC 39 dX1_ageOn_15 cl_39 (fun v2 => ?_)
    refine at_isub hC dX1_ageOn_16 ?_
    refine at_mxI hC hR lkm_X1_56 dX1_ageOn_17 (by decide) (Nat.le_of_ble_eq_true rfl) ⟨Nat.le_refl 0, Nat.le_refl 0⟩ ?_
    refine at_bipush hC bi_100 dX1_ageOn_20 ?_
    refine at_idiv hC (by decide) dX1_ageOn_22 ?_
    refine at_goto (tgt := 27) hC dX1_ageOn_23 rfl ?_
    exact at_iret (F := eqA ad) (ra := rI) hC dX1_ageOn_27 rfl (Nat.le_refl 0) (Nat.le_refl 0) rfl
theorem dX1_addPerson_0 : decode cX1_addPerson 0 = .ok (.aload_n 0, 1) := by decide +kernel
theorem dX1_addPerson_1 : decode cX1_addPerson 1 = .ok (.getfield 45, 3) := by decide +kernel
theorem dX1_addPerson_4 : decode cX1_addPerson 4 = .ok (.bipush 24, 2) := by decide +kernel
theorem dX1_addPerson_6 : decode cX1_addPerson 6 = .ok (.if_icmp .lt 6, 3) := by decide +kernel
theorem dX1_addPerson_9 : decode cX1_addPerson 9 = .ok (.bipush (-4), 2) := by decide +kernel
theorem dX1_addPerson_11 : decode cX1_addPerson 11 = .ok (.ireturn, 1) := by decide +kernel
theorem dX1_addPerson_12 : decode cX1_addPerson 12 = .ok (.aload_n 0, 1) := by decide +kernel
theorem dX1_addPerson_13 : decode cX1_addPerson 13 = .ok (.getfield 9, 3) := by decide +kernel
theorem dX1_addPerson_16 : decode cX1_addPerson 16 = .ok (.aload_n 0, 1) := by decide +kernel
theorem dX1_addPerson_17 : decode cX1_addPerson 17 = .ok (.getfield 45, 3) := by decide +kernel
theorem dX1_addPerson_20 : decode cX1_addPerson 20 = .ok (.iload_n 1, 1) := by decide +kernel
theorem dX1_addPerson_21 : decode cX1_addPerson 21 = .ok (.iastore, 1) := by decide +kernel
theorem dX1_addPerson_22 : decode cX1_addPerson 22 = .ok (.aload_n 0, 1) := by decide +kernel
theorem dX1_addPerson_23 : decode cX1_addPerson 23 = .ok (.getfield 15, 3) := by decide +kernel
theorem dX1_addPerson_26 : decode cX1_addPerson 26 = .ok (.aload_n 0, 1) := by decide +kernel
theorem dX1_addPerson_27 : decode cX1_addPerson 27 = .ok (.getfield 45, 3) := by decide +kernel
theorem dX1_addPerson_30 : decode cX1_addPerson 30 = .ok (.iload_n 2, 1) := by decide +kernel
theorem dX1_addPerson_31 : decode cX1_addPerson 31 = .ok (.iastore, 1) := by decide +kernel
theorem dX1_addPerson_32 : decode cX1_addPerson 32 = .ok (.aload_n 0, 1) := by decide +kernel
theorem dX1_addPerson_33 : decode cX1_addPerson 33 = .ok (.getfield 18, 3) := by decide +kernel
theorem dX1_addPerson_36 : decode cX1_addPerson 36 = .ok (.aload_n 0, 1) := by decide +kernel
theorem dX1_addPerson_37 : decode cX1_addPerson 37 = .ok (.getfield 45, 3) := by decide +kernel
theorem dX1_addPerson_40 : decode cX1_addPerson 40 = .ok (.iload_n 3, 1) := by decide +kernel
theorem dX1_addPerson_41 : decode cX1_addPerson 41 = .ok (.iastore, 1) := by decide +kernel
theorem dX1_addPerson_42 : decode cX1_addPerson 42 = .ok (.aload_n 0, 1) := by decide +kernel
theorem dX1_addPerson_43 : decode cX1_addPerson 43 = .ok (.getfield 21, 3) := by decide +kernel
theorem dX1_addPerson_46 : decode cX1_addPerson 46 = .ok (.aload_n 0, 1) := by decide +kernel
theorem dX1_addPerson_47 : decode cX1_addPerson 47 = .ok (.getfield 45, 3) := by decide +kernel
theorem dX1_addPerson_50 : decode cX1_addPerson 50 = .ok (.iload 4, 2) := by decide +kernel
theorem dX1_addPerson_52 : decode cX1_addPerson 52 = .ok (.iastore, 1) := by decide +kernel
theorem dX1_addPerson_53 : decode cX1_addPerson 53 = .ok (.aload_n 0, 1) := by decide +kernel
theorem dX1_addPerson_54 : decode cX1_addPerson 54 = .ok (.dup, 1) := by decide +kernel
theorem dX1_addPerson_55 : decode cX1_addPerson 55 = .ok (.getfield 45, 3) := by decide +kernel
theorem dX1_addPerson_58 : decode cX1_addPerson 58 = .ok (.dup_x1, 1) := by decide +kernel
theorem dX1_addPerson_59 : decode cX1_addPerson 59 = .ok (.iconst 1, 1) := by decide +kernel
theorem dX1_addPerson_60 : decode cX1_addPerson 60 = .ok (.iadd, 1) := by decide +kernel
theorem dX1_addPerson_61 : decode cX1_addPerson 61 = .ok (.putfield 45, 3) := by decide +kernel
theorem dX1_addPerson_64 : decode cX1_addPerson 64 = .ok (.ireturn, 1) := by decide +kernel
set_option maxRecDepth 100000 in
theorem c_Bk_addPerson (τ : XS) (p0 : Int32) (p1 : Int32) (p2 : Int32) (p3 : Int32) : Ct z (wX z σ) rI eqA yX1_addPerson cX1_addPerson 5 (some .int) 1 0 0 [.ref 37, .int p0, .int p1, .int p2, .int p3] τ (Bk_addPerson τ p0 p1 p2 p3) := by
  refine Ct.of (by decide) (Nat.le_of_ble_eq_true rfl) (fun ad x hC hR _ => ?_)
  show AT z x 5 (wX z σ) rI (eqA ad) 0 0 0 0 ad 0 [(0, .ref 37), (1, .int p0), (2, .int p1), (3, .int p2), (4, .int p3)] [] τ (Bk_addPerson τ p0 p1 p2 p3)
  unfold Bk_addPerson
  refine at_aload_n (j := 0) hC rfl rfl dX1_addPerson_0 ?_
  refine gf_X1_45 hC dX1_addPerson_1 ?_
  refine at_bipush hC bi_24 dX1_addPerson_4 ?_
  refine at_icmp_lt (tgt := 12) hC dX1_addPerson_6 rfl (fun _ => ?_) (fun _ => ?_)
  · refine at_aload_n (j := 0) hC rfl rfl dX1_addPerson_12 ?_
    refine gf_X1_9 hC dX1_addPerson_13 ?_
    refine at_aload_n (j := 0) hC rfl rfl dX1_addPerson_16 ?_
    refine gf_X1_45 hC dX1_addPerson_17 ?_
    refine at_iload_n (j := 1) hC rfl rfl dX1_addPerson_20 ?_
    refine at_iast hC 38 dX1_addPerson_21 cl_38 st_38 ?_
    refine at_aload_n (j := 0) hC rfl rfl dX1_addPerson_22 ?_
    refine gf_X1_15 hC dX1_addPerson_23 ?_
    refine at_aload_n (j := 0) hC rfl rfl dX1_addPerson_26 ?_
    refine gf_X1_45 hC dX1_addPerson_27 ?_
    refine at_iload_n (j := 2) hC rfl rfl dX1_addPerson_30 ?_
    refine at_iast hC 39 dX1_addPerson_31 cl_39 st_39 ?_
    refine at_aload_n (j := 0) hC rfl rfl dX1_addPerson_32 ?_
    refine gf_X1_18 hC dX1_addPerson_33 ?_
    refine at_aload_n (j := 0) hC rfl rfl dX1_addPerson_36 ?_
    refine gf_X1_45 hC dX1_addPerson_37 ?_
    refine at_iload_n (j := 3) hC rfl rfl dX1_addPerson_40 ?_
    refine at_iast hC 40 dX1_addPerson_41 cl_40 st_40 ?_
    refine at_aload_n (j := 0) hC rfl rfl dX1_addPerson_42 ?_
    refine gf_X1_21 hC dX1_addPerson_43 ?_
    refine at_aload_n (j := 0) hC rfl rfl dX1_addPerson_46 ?_
    refine gf_X1_45 hC dX1_addPerson_47 ?_
    refine at_iload (j := 4) hC rfl dX1_addPerson_50 ?_
    refine at_iast hC 41 dX1_addPerson_52 cl_41 st_41 ?_
    refine at_aload_n (j := 0) hC rfl rfl dX1_addPerson_53 ?_
    refine at_dup hC rfl dX1_addPerson_54 ?_
    refine gf_X1_45 hC dX1_addPerson_55 ?_
    refine at_dup_x1 hC rfl rfl dX1_addPerson_58 ?_
    refine at_iconst hC ic_1 dX1_addPerson_59 ?_
    refine at_iadd hC dX1_addPerson_60 ?_
    refine pf_X1_45 hC dX1_addPerson_61 ?_
    exact at_iret (F := eqA ad) (ra := rI) hC dX1_addPerson_64 rfl (Nat.le_refl 0) (Nat.le_refl 0) rfl
  · refine at_bipush hC bi_m4 dX1_addPerson_9 ?_
    exact at_iret (F := eqA ad) (ra := rI) hC dX1_addPerson_11 rfl (Nat.le_refl 0) (Nat.le_refl 0) rfl
theorem dX1_putByDay_0 : decode cX1_putByDay 0 = .ok (.aload_n 0, 1) := by decide +kernel
theorem dX1_putByDay_1 : decode cX1_putByDay 1 = .ok (.getfield 73, 3) := by decide +kernel
theorem dX1_putByDay_4 : decode cX1_putByDay 4 = .ok (.sipush 200, 3) := by decide +kernel
theorem dX1_putByDay_7 : decode cX1_putByDay 7 = .ok (.if_icmp .lt 4, 3) := by decide +kernel
theorem dX1_putByDay_10 : decode cX1_putByDay 10 = .ok (.return_, 1) := by decide +kernel
theorem dX1_putByDay_11 : decode cX1_putByDay 11 = .ok (.aload_n 0, 1) := by decide +kernel
theorem dX1_putByDay_12 : decode cX1_putByDay 12 = .ok (.getfield 73, 3) := by decide +kernel
theorem dX1_putByDay_15 : decode cX1_putByDay 15 = .ok (.istore_n 2, 1) := by decide +kernel
theorem dX1_putByDay_16 : decode cX1_putByDay 16 = .ok (.iload_n 2, 1) := by decide +kernel
theorem dX1_putByDay_17 : decode cX1_putByDay 17 = .ok (.ifCond .le 45, 3) := by decide +kernel
theorem dX1_putByDay_20 : decode cX1_putByDay 20 = .ok (.aload_n 0, 1) := by decide +kernel
theorem dX1_putByDay_21 : decode cX1_putByDay 21 = .ok (.getfield 33, 3) := by decide +kernel
theorem dX1_putByDay_24 : decode cX1_putByDay 24 = .ok (.aload_n 0, 1) := by decide +kernel
theorem dX1_putByDay_25 : decode cX1_putByDay 25 = .ok (.getfield 42, 3) := by decide +kernel
theorem dX1_putByDay_28 : decode cX1_putByDay 28 = .ok (.iload_n 2, 1) := by decide +kernel
theorem dX1_putByDay_29 : decode cX1_putByDay 29 = .ok (.iconst 1, 1) := by decide +kernel
theorem dX1_putByDay_30 : decode cX1_putByDay 30 = .ok (.isub, 1) := by decide +kernel
theorem dX1_putByDay_31 : decode cX1_putByDay 31 = .ok (.iaload, 1) := by decide +kernel
theorem dX1_putByDay_32 : decode cX1_putByDay 32 = .ok (.iaload, 1) := by decide +kernel
theorem dX1_putByDay_33 : decode cX1_putByDay 33 = .ok (.aload_n 0, 1) := by decide +kernel
theorem dX1_putByDay_34 : decode cX1_putByDay 34 = .ok (.getfield 33, 3) := by decide +kernel
theorem dX1_putByDay_37 : decode cX1_putByDay 37 = .ok (.iload_n 1, 1) := by decide +kernel
theorem dX1_putByDay_38 : decode cX1_putByDay 38 = .ok (.iaload, 1) := by decide +kernel
theorem dX1_putByDay_39 : decode cX1_putByDay 39 = .ok (.if_icmp .le 23, 3) := by decide +kernel
theorem dX1_putByDay_42 : decode cX1_putByDay 42 = .ok (.aload_n 0, 1) := by decide +kernel
theorem dX1_putByDay_43 : decode cX1_putByDay 43 = .ok (.getfield 42, 3) := by decide +kernel
theorem dX1_putByDay_46 : decode cX1_putByDay 46 = .ok (.iload_n 2, 1) := by decide +kernel
theorem dX1_putByDay_47 : decode cX1_putByDay 47 = .ok (.aload_n 0, 1) := by decide +kernel
theorem dX1_putByDay_48 : decode cX1_putByDay 48 = .ok (.getfield 42, 3) := by decide +kernel
theorem dX1_putByDay_51 : decode cX1_putByDay 51 = .ok (.iload_n 2, 1) := by decide +kernel
theorem dX1_putByDay_52 : decode cX1_putByDay 52 = .ok (.iconst 1, 1) := by decide +kernel
theorem dX1_putByDay_53 : decode cX1_putByDay 53 = .ok (.isub, 1) := by decide +kernel
theorem dX1_putByDay_54 : decode cX1_putByDay 54 = .ok (.iaload, 1) := by decide +kernel
theorem dX1_putByDay_55 : decode cX1_putByDay 55 = .ok (.iastore, 1) := by decide +kernel
theorem dX1_putByDay_56 : decode cX1_putByDay 56 = .ok (.iinc 2 (-1), 3) := by decide +kernel
theorem dX1_putByDay_59 : decode cX1_putByDay 59 = .ok (.goto (-43), 3) := by decide +kernel
theorem dX1_putByDay_62 : decode cX1_putByDay 62 = .ok (.aload_n 0, 1) := by decide +kernel
theorem dX1_putByDay_63 : decode cX1_putByDay 63 = .ok (.getfield 42, 3) := by decide +kernel
theorem dX1_putByDay_66 : decode cX1_putByDay 66 = .ok (.iload_n 2, 1) := by decide +kernel
theorem dX1_putByDay_67 : decode cX1_putByDay 67 = .ok (.iload_n 1, 1) := by decide +kernel
theorem dX1_putByDay_68 : decode cX1_putByDay 68 = .ok (.iastore, 1) := by decide +kernel
theorem dX1_putByDay_69 : decode cX1_putByDay 69 = .ok (.aload_n 0, 1) := by decide +kernel
theorem dX1_putByDay_70 : decode cX1_putByDay 70 = .ok (.dup, 1) := by decide +kernel
theorem dX1_putByDay_71 : decode cX1_putByDay 71 = .ok (.getfield 73, 3) := by decide +kernel
theorem dX1_putByDay_74 : decode cX1_putByDay 74 = .ok (.iconst 1, 1) := by decide +kernel
theorem dX1_putByDay_75 : decode cX1_putByDay 75 = .ok (.iadd, 1) := by decide +kernel
theorem dX1_putByDay_76 : decode cX1_putByDay 76 = .ok (.putfield 73, 3) := by decide +kernel
theorem dX1_putByDay_79 : decode cX1_putByDay 79 = .ok (.return_, 1) := by decide +kernel
set_option maxRecDepth 100000 in
theorem t_Bk_putByDay_J62 (hC : CX z ad x cX1_putByDay RX1 3 none) (hR : x.2.2.1 = rmk 1 0 0) (τ : XS) (a1 : Int32) (a2 : Int32) : AT z x 3 (wX z σ) rU (eqA ad) 0 0 0 0 ad 62 [(0, .ref 37), (1, .int a1), (2, .int a2)] [] τ (Bk_putByDay_J62 τ a1 a2) := by
  unfold Bk_putByDay_J62
  refine at_aload_n (j := 0) hC rfl rfl dX1_putByDay_62 ?_
  refine gf_X1_42 hC dX1_putByDay_63 ?_
  refine at_iload_n (j := 2) hC rfl rfl dX1_putByDay_66 ?_
  refine at_iload_n (j := 1) hC rfl rfl dX1_putByDay_67 ?_
  refine at_iast hC 48 dX1_putByDay_68 cl_48 st_48 ?_
  refine at_aload_n (j := 0) hC rfl rfl dX1_putByDay_69 ?_
  refine at_dup hC rfl dX1_putByDay_70 ?_
  refine gf_X1_73 hC dX1_putByDay_71 ?_
  refine at_iconst hC ic_1 dX1_putByDay_74 ?_
  refine at_iadd hC dX1_putByDay_75 ?_
  refine pf_X1_73 hC dX1_putByDay_76 ?_
  exact at_vret (F := eqA ad) (ra := rU) hC dX1_putByDay_79 rfl (Nat.le_refl 0) (Nat.le_refl 0) rfl
set_option maxRecDepth 100000 in
theorem t_Bk_putByDay_L16 (hC : CX z ad x cX1_putByDay RX1 3 none) (hR : x.2.2.1 = rmk 1 0 0) (n : Nat) (τ : XS) (a1 : Int32) (a2 : Int32) : AT z x 3 (wX z σ) rU (eqA ad) 0 0 0 0 ad 16 [(0, .ref 37), (1, .int a1), (2, .int a2)] [] τ (Bk_putByDay_L16 n τ a1 a2) := by
  revert τ a1 a2
  show ∀ (τ : XS) (a1 : Int32) (a2 : Int32), AT z x 3 (wX z σ) rU (eqA ad) 0 0 0 0 ad 16 [(0, .ref 37), (1, .int a1), (2, .int a2)] [] τ (Bk_putByDay_L16_r n τ a1 a2)
  induction n with
  | zero => intro τ a1 a2; exact at_none
  | succ n hk_16 =>
    intro τ a1 a2
    unfold Bk_putByDay_L16_r
    refine at_iload_n (j := 2) hC rfl rfl dX1_putByDay_16 ?_
    refine at_if_le (tgt := 62) hC dX1_putByDay_17 rfl (fun _ => ?_) (fun _ => ?_)
    · exact t_Bk_putByDay_J62 hC hR τ a1 a2
    · refine at_aload_n (j := 0) hC rfl rfl dX1_putByDay_20 ?_
      refine gf_X1_33 hC dX1_putByDay_21 ?_
      refine at_aload_n (j := 0) hC rfl rfl dX1_putByDay_24 ?_
      refine gf_X1_42 hC dX1_putByDay_25 ?_
      refine at_iload_n (j := 2) hC rfl rfl dX1_putByDay_28 ?_
      refine at_iconst hC ic_1 dX1_putByDay_29 ?_
      refine at_isub hC dX1_putByDay_30 ?_
      refine at_iald hC 48 dX1_putByDay_31 cl_48 (fun v1 => ?_)
      refine at_iald hC 45 dX1_putByDay_32 cl_45 (fun v2 => ?_)
      refine at_aload_n (j := 0) hC rfl rfl dX1_putByDay_33 ?_
      refine gf_X1_33 hC dX1_putByDay_34 ?_
      refine at_iload_n (j := 1) hC rfl rfl dX1_putByDay_37 ?_
      refine at_iald hC 45 dX1_putByDay_38 cl_45 (fun v3 => ?_)
      refine at_icmp_le (tgt := 62) hC dX1_putByDay_39 rfl (fun _ => ?_) (fun _ => ?_)
      · exact t_Bk_putByDay_J62 hC hR τ a1 a2
      · refine at_aload_n (j := 0) hC rfl rfl dX1_putByDay_42 ?_
        refine gf_X1_42 hC dX1_putByDay_43 ?_
        refine at_iload_n (j := 2) hC rfl rfl dX1_putByDay_46 ?_
        refine at_aload_n (j := 0) hC rfl rfl dX1_putByDay_47 ?_
        refine gf_X1_42 hC dX1_putByDay_48 ?_
        refine at_iload_n (j := 2) hC rfl rfl dX1_putByDay_51 ?_
        refine at_iconst hC ic_1 dX1_putByDay_52 ?_
        refine at_isub hC dX1_putByDay_53 ?_
        refine at_iald hC 48 dX1_putByDay_54 cl_48 (fun v4 => ?_)
        refine at_iast hC 48 dX1_putByDay_55 cl_48 st_48 ?_
        refine at_iinc (j := 2) (v := a2 + (-1)) (lv' := [(2, .int (a2 + (-1))), (0, .ref 37), (1, .int a1)]) hC dX1_putByDay_56 rfl rfl (by decide) rfl ?_
        refine at_goto (tgt := 16) hC dX1_putByDay_59 rfl ?_
        refine at_drop (lv' := [(0, .ref 37), (1, .int a1), (2, .int (a2 + (-1)))]) [1, 2, 0] rfl ?_
        exact hk_16 (xA τ 114 (upd (τ.2.1 114) a2.toNatClampNeg v4)) a1 (a2 + (-1))
set_option maxRecDepth 100000 in
theorem c_Bk_putByDay (τ : XS) (p0 : Int32) : Ct z (wX z σ) rU eqA yX1_putByDay cX1_putByDay 3 none 1 0 0 [.ref 37, .int p0] τ (Bk_putByDay τ p0) := by
  refine Ct.of (by decide) (Nat.le_of_ble_eq_true rfl) (fun ad x hC hR _ => ?_)
  show AT z x 3 (wX z σ) rU (eqA ad) 0 0 0 0 ad 0 [(0, .ref 37), (1, .int p0)] [] τ (Bk_putByDay τ p0)
  unfold Bk_putByDay
  refine at_aload_n (j := 0) hC rfl rfl dX1_putByDay_0 ?_
  refine gf_X1_73 hC dX1_putByDay_1 ?_
  refine at_sipush hC si_200 dX1_putByDay_4 ?_
  refine at_icmp_lt (tgt := 11) hC dX1_putByDay_7 rfl (fun _ => ?_) (fun _ => ?_)
  · refine at_aload_n (j := 0) hC rfl rfl dX1_putByDay_11 ?_
    refine gf_X1_73 hC dX1_putByDay_12 ?_
    refine at_istore_n (lv' := [(2, .int (τ.1 115)), (0, .ref 37), (1, .int p0)]) hC rfl dX1_putByDay_15 (by decide) rfl ?_
    refine at_drop (lv' := [(0, .ref 37), (1, .int p0), (2, .int (τ.1 115))]) [1, 2, 0] rfl ?_
    exact t_Bk_putByDay_L16 hC hR 100000 τ p0 (τ.1 115)
  · exact at_vret (F := eqA ad) (ra := rU) hC dX1_putByDay_10 rfl (Nat.le_refl 0) (Nat.le_refl 0) rfl
theorem dX1_addEntry_0 : decode cX1_addEntry 0 = .ok (.aload_n 0, 1) := by decide +kernel
theorem dX1_addEntry_1 : decode cX1_addEntry 1 = .ok (.getfield 53, 3) := by decide +kernel
theorem dX1_addEntry_4 : decode cX1_addEntry 4 = .ok (.sipush 200, 3) := by decide +kernel
theorem dX1_addEntry_7 : decode cX1_addEntry 7 = .ok (.if_icmp .lt 6, 3) := by decide +kernel
theorem dX1_addEntry_10 : decode cX1_addEntry 10 = .ok (.bipush (-4), 2) := by decide +kernel
theorem dX1_addEntry_12 : decode cX1_addEntry 12 = .ok (.ireturn, 1) := by decide +kernel
theorem dX1_addEntry_13 : decode cX1_addEntry 13 = .ok (.aload_n 0, 1) := by decide +kernel
theorem dX1_addEntry_14 : decode cX1_addEntry 14 = .ok (.getfield 24, 3) := by decide +kernel
theorem dX1_addEntry_17 : decode cX1_addEntry 17 = .ok (.aload_n 0, 1) := by decide +kernel
theorem dX1_addEntry_18 : decode cX1_addEntry 18 = .ok (.getfield 53, 3) := by decide +kernel
theorem dX1_addEntry_21 : decode cX1_addEntry 21 = .ok (.iload_n 1, 1) := by decide +kernel
theorem dX1_addEntry_22 : decode cX1_addEntry 22 = .ok (.iastore, 1) := by decide +kernel
theorem dX1_addEntry_23 : decode cX1_addEntry 23 = .ok (.aload_n 0, 1) := by decide +kernel
theorem dX1_addEntry_24 : decode cX1_addEntry 24 = .ok (.getfield 27, 3) := by decide +kernel
theorem dX1_addEntry_27 : decode cX1_addEntry 27 = .ok (.aload_n 0, 1) := by decide +kernel
theorem dX1_addEntry_28 : decode cX1_addEntry 28 = .ok (.getfield 53, 3) := by decide +kernel
theorem dX1_addEntry_31 : decode cX1_addEntry 31 = .ok (.iload_n 2, 1) := by decide +kernel
theorem dX1_addEntry_32 : decode cX1_addEntry 32 = .ok (.iastore, 1) := by decide +kernel
theorem dX1_addEntry_33 : decode cX1_addEntry 33 = .ok (.aload_n 0, 1) := by decide +kernel
theorem dX1_addEntry_34 : decode cX1_addEntry 34 = .ok (.getfield 30, 3) := by decide +kernel
theorem dX1_addEntry_37 : decode cX1_addEntry 37 = .ok (.aload_n 0, 1) := by decide +kernel
theorem dX1_addEntry_38 : decode cX1_addEntry 38 = .ok (.getfield 53, 3) := by decide +kernel
theorem dX1_addEntry_41 : decode cX1_addEntry 41 = .ok (.iload_n 3, 1) := by decide +kernel
theorem dX1_addEntry_42 : decode cX1_addEntry 42 = .ok (.iastore, 1) := by decide +kernel
theorem dX1_addEntry_43 : decode cX1_addEntry 43 = .ok (.aload_n 0, 1) := by decide +kernel
theorem dX1_addEntry_44 : decode cX1_addEntry 44 = .ok (.getfield 33, 3) := by decide +kernel
theorem dX1_addEntry_47 : decode cX1_addEntry 47 = .ok (.aload_n 0, 1) := by decide +kernel
theorem dX1_addEntry_48 : decode cX1_addEntry 48 = .ok (.getfield 53, 3) := by decide +kernel
theorem dX1_addEntry_51 : decode cX1_addEntry 51 = .ok (.iload 4, 2) := by decide +kernel
theorem dX1_addEntry_53 : decode cX1_addEntry 53 = .ok (.iastore, 1) := by decide +kernel
theorem dX1_addEntry_54 : decode cX1_addEntry 54 = .ok (.aload_n 0, 1) := by decide +kernel
theorem dX1_addEntry_55 : decode cX1_addEntry 55 = .ok (.getfield 36, 3) := by decide +kernel
theorem dX1_addEntry_58 : decode cX1_addEntry 58 = .ok (.aload_n 0, 1) := by decide +kernel
theorem dX1_addEntry_59 : decode cX1_addEntry 59 = .ok (.getfield 53, 3) := by decide +kernel
theorem dX1_addEntry_62 : decode cX1_addEntry 62 = .ok (.iload 5, 2) := by decide +kernel
theorem dX1_addEntry_64 : decode cX1_addEntry 64 = .ok (.iastore, 1) := by decide +kernel
theorem dX1_addEntry_65 : decode cX1_addEntry 65 = .ok (.aload_n 0, 1) := by decide +kernel
theorem dX1_addEntry_66 : decode cX1_addEntry 66 = .ok (.getfield 39, 3) := by decide +kernel
theorem dX1_addEntry_69 : decode cX1_addEntry 69 = .ok (.aload_n 0, 1) := by decide +kernel
theorem dX1_addEntry_70 : decode cX1_addEntry 70 = .ok (.getfield 53, 3) := by decide +kernel
theorem dX1_addEntry_73 : decode cX1_addEntry 73 = .ok (.sipush 200, 3) := by decide +kernel
theorem dX1_addEntry_76 : decode cX1_addEntry 76 = .ok (.iastore, 1) := by decide +kernel
theorem dX1_addEntry_77 : decode cX1_addEntry 77 = .ok (.iload_n 1, 1) := by decide +kernel
theorem dX1_addEntry_78 : decode cX1_addEntry 78 = .ok (.iconst 2, 1) := by decide +kernel
theorem dX1_addEntry_79 : decode cX1_addEntry 79 = .ok (.if_icmp .ne 8, 3) := by decide +kernel
theorem dX1_addEntry_82 : decode cX1_addEntry 82 = .ok (.aload_n 0, 1) := by decide +kernel
theorem dX1_addEntry_83 : decode cX1_addEntry 83 = .ok (.iconst 1, 1) := by decide +kernel
theorem dX1_addEntry_84 : decode cX1_addEntry 84 = .ok (.putfield 62, 3) := by decide +kernel
theorem dX1_addEntry_87 : decode cX1_addEntry 87 = .ok (.iload_n 1, 1) := by decide +kernel
theorem dX1_addEntry_88 : decode cX1_addEntry 88 = .ok (.bipush 7, 2) := by decide +kernel
theorem dX1_addEntry_90 : decode cX1_addEntry 90 = .ok (.if_icmp .ne 24, 3) := by decide +kernel
theorem dX1_addEntry_93 : decode cX1_addEntry 93 = .ok (.aload_n 0, 1) := by decide +kernel
theorem dX1_addEntry_94 : decode cX1_addEntry 94 = .ok (.iload_n 2, 1) := by decide +kernel
theorem dX1_addEntry_95 : decode cX1_addEntry 95 = .ok (.invokevirtual 66, 3) := by decide +kernel
theorem dX1_addEntry_98 : decode cX1_addEntry 98 = .ok (.ifCond .eq 24, 3) := by decide +kernel
theorem dX1_addEntry_101 : decode cX1_addEntry 101 = .ok (.aload_n 0, 1) := by decide +kernel
theorem dX1_addEntry_102 : decode cX1_addEntry 102 = .ok (.getfield 39, 3) := by decide +kernel
theorem dX1_addEntry_105 : decode cX1_addEntry 105 = .ok (.iload_n 2, 1) := by decide +kernel
theorem dX1_addEntry_106 : decode cX1_addEntry 106 = .ok (.aload_n 0, 1) := by decide +kernel
theorem dX1_addEntry_107 : decode cX1_addEntry 107 = .ok (.getfield 53, 3) := by decide +kernel
theorem dX1_addEntry_110 : decode cX1_addEntry 110 = .ok (.iastore, 1) := by decide +kernel
theorem dX1_addEntry_111 : decode cX1_addEntry 111 = .ok (.goto 11, 3) := by decide +kernel
theorem dX1_addEntry_114 : decode cX1_addEntry 114 = .ok (.aload_n 0, 1) := by decide +kernel
theorem dX1_addEntry_115 : decode cX1_addEntry 115 = .ok (.aload_n 0, 1) := by decide +kernel
theorem dX1_addEntry_116 : decode cX1_addEntry 116 = .ok (.getfield 53, 3) := by decide +kernel
theorem dX1_addEntry_119 : decode cX1_addEntry 119 = .ok (.invokevirtual 69, 3) := by decide +kernel
theorem dX1_addEntry_122 : decode cX1_addEntry 122 = .ok (.aload_n 0, 1) := by decide +kernel
theorem dX1_addEntry_123 : decode cX1_addEntry 123 = .ok (.dup, 1) := by decide +kernel
theorem dX1_addEntry_124 : decode cX1_addEntry 124 = .ok (.getfield 53, 3) := by decide +kernel
theorem dX1_addEntry_127 : decode cX1_addEntry 127 = .ok (.dup_x1, 1) := by decide +kernel
theorem dX1_addEntry_128 : decode cX1_addEntry 128 = .ok (.iconst 1, 1) := by decide +kernel
theorem dX1_addEntry_129 : decode cX1_addEntry 129 = .ok (.iadd, 1) := by decide +kernel
theorem dX1_addEntry_130 : decode cX1_addEntry 130 = .ok (.putfield 53, 3) := by decide +kernel
theorem dX1_addEntry_133 : decode cX1_addEntry 133 = .ok (.ireturn, 1) := by decide +kernel
set_option maxRecDepth 100000 in
theorem t_Bk_addEntry_J122 (hC : CX z ad x cX1_addEntry RX1 6 (some .int)) (hR : x.2.2.1 = rmk 2 0 0) (τ : XS) : AT z x 6 (wX z σ) rI (eqA ad) 0 0 0 0 ad 122 [(0, .ref 37)] [] τ (Bk_addEntry_J122 τ) := by
  unfold Bk_addEntry_J122
  refine at_aload_n (j := 0) hC rfl rfl dX1_addEntry_122 ?_
  refine at_dup hC rfl dX1_addEntry_123 ?_
  refine gf_X1_53 hC dX1_addEntry_124 ?_
  refine at_dup_x1 hC rfl rfl dX1_addEntry_127 ?_
  refine at_iconst hC ic_1 dX1_addEntry_128 ?_
  refine at_iadd hC dX1_addEntry_129 ?_
  refine pf_X1_53 hC dX1_addEntry_130 ?_
  exact at_iret (F := eqA ad) (ra := rI) hC dX1_addEntry_133 rfl (Nat.le_refl 0) (Nat.le_refl 0) rfl
set_option maxRecDepth 100000 in
theorem t_Bk_addEntry_J87 (hC : CX z ad x cX1_addEntry RX1 6 (some .int)) (hR : x.2.2.1 = rmk 2 0 0) (τ : XS) (a1 : Int32) (a2 : Int32) : AT z x 6 (wX z σ) rI (eqA ad) 0 0 0 0 ad 87 [(0, .ref 37), (1, .int a1), (2, .int a2)] [] τ (Bk_addEntry_J87 τ a1 a2) := by
  unfold Bk_addEntry_J87
  refine at_iload_n (j := 1) hC rfl rfl dX1_addEntry_87 ?_
  refine at_bipush hC bi_7 dX1_addEntry_88 ?_
  refine at_icmp_ne (tgt := 114) hC dX1_addEntry_90 rfl (fun _ => ?_) (fun _ => ?_)
  · refine at_aload_n (j := 0) hC rfl rfl dX1_addEntry_114 ?_
    refine at_aload_n (j := 0) hC rfl rfl dX1_addEntry_115 ?_
    refine gf_X1_53 hC dX1_addEntry_116 ?_
    refine at_callVU hC hR lk_X1_69 (c_Bk_putByDay τ (τ.1 113)) dX1_addEntry_119 recX1 rfl rfl ⟨by decide, by decide⟩ (Nat.le_of_ble_eq_true rfl) ⟨Nat.le_refl 0, Nat.le_refl 0⟩ (fun r1 r1s _ => ?_)
    refine at_drop (lv' := [(0, .ref 37)]) [0] rfl ?_
    exact t_Bk_addEntry_J122 hC hR r1s
  · refine at_aload_n (j := 0) hC rfl rfl dX1_addEntry_93 ?_
    refine at_iload_n (j := 2) hC rfl rfl dX1_addEntry_94 ?_
    refine at_callVpI hC hR lk_X1_66 (c_Bk_isEntry τ a2) dX1_addEntry_95 recX1 rfl rfl ⟨by decide, by decide⟩ (Nat.le_of_ble_eq_true rfl) ⟨Nat.le_refl 0, Nat.le_refl 0⟩ (fun r2 _ => ?_)
    refine at_if_eq (tgt := 122) hC dX1_addEntry_98 rfl (fun _ => ?_) (fun _ => ?_)
    · refine at_drop (lv' := [(0, .ref 37)]) [0] rfl ?_
      exact t_Bk_addEntry_J122 hC hR τ
    · refine at_aload_n (j := 0) hC rfl rfl dX1_addEntry_101 ?_
      refine gf_X1_39 hC dX1_addEntry_102 ?_
      refine at_iload_n (j := 2) hC rfl rfl dX1_addEntry_105 ?_
      refine at_aload_n (j := 0) hC rfl rfl dX1_addEntry_106 ?_
      refine gf_X1_53 hC dX1_addEntry_107 ?_
      refine at_iast hC 47 dX1_addEntry_110 cl_47 st_47 ?_
      refine at_goto (tgt := 122) hC dX1_addEntry_111 rfl ?_
      refine at_drop (lv' := [(0, .ref 37)]) [0] rfl ?_
      exact t_Bk_addEntry_J122 hC hR (xA τ 112 (upd (τ.2.1 112) a2.toNatClampNeg (τ.1 113)))
set_option maxRecDepth 100000 in
theorem c_Bk_addEntry (τ : XS) (p0 : Int32) (p1 : Int32) (p2 : Int32) (p3 : Int32) (p4 : Int32) : Ct z (wX z σ) rI eqA yX1_addEntry cX1_addEntry 6 (some .int) 2 0 0 [.ref 37, .int p0, .int p1, .int p2, .int p3, .int p4] τ (Bk_addEntry τ p0 p1 p2 p3 p4) := by
  refine Ct.of (by decide) (Nat.le_of_ble_eq_true rfl) (fun ad x hC hR _ => ?_)
  show AT z x 6 (wX z σ) rI (eqA ad) 0 0 0 0 ad 0 [(0, .ref 37), (1, .int p0), (2, .int p1), (3, .int p2), (4, .int p3), (5, .int p4)] [] τ (Bk_addEntry τ p0 p1 p2 p3 p4)
  unfold Bk_addEntry
  refine at_aload_n (j := 0) hC rfl rfl dX1_addEntry_0 ?_
  refine gf_X1_53 hC dX1_addEntry_1 ?_
  refine at_sipush hC si_200 dX1_addEntry_4 ?_
  refine at_icmp_lt (tgt := 13) hC dX1_addEntry_7 rfl (fun _ => ?_) (fun _ => ?_)
  · refine at_aload_n (j := 0) hC rfl rfl dX1_addEntry_13 ?_
    refine gf_X1_24 hC dX1_addEntry_14 ?_
    refine at_aload_n (j := 0) hC rfl rfl dX1_addEntry_17 ?_
    refine gf_X1_53 hC dX1_addEntry_18 ?_
    refine at_iload_n (j := 1) hC rfl rfl dX1_addEntry_21 ?_
    refine at_iast hC 42 dX1_addEntry_22 cl_42 st_42 ?_
    refine at_aload_n (j := 0) hC rfl rfl dX1_addEntry_23 ?_
    refine gf_X1_27 hC dX1_addEntry_24 ?_
    refine at_aload_n (j := 0) hC rfl rfl dX1_addEntry_27 ?_
    refine gf_X1_53 hC dX1_addEntry_28 ?_
    refine at_iload_n (j := 2) hC rfl rfl dX1_addEntry_31 ?_
    refine at_iast hC 43 dX1_addEntry_32 cl_43 st_43 ?_
    refine at_aload_n (j := 0) hC rfl rfl dX1_addEntry_33 ?_
    refine gf_X1_30 hC dX1_addEntry_34 ?_
    refine at_aload_n (j := 0) hC rfl rfl dX1_addEntry_37 ?_
    refine gf_X1_53 hC dX1_addEntry_38 ?_
    refine at_iload_n (j := 3) hC rfl rfl dX1_addEntry_41 ?_
    refine at_iast hC 44 dX1_addEntry_42 cl_44 st_44 ?_
    refine at_aload_n (j := 0) hC rfl rfl dX1_addEntry_43 ?_
    refine gf_X1_33 hC dX1_addEntry_44 ?_
    refine at_aload_n (j := 0) hC rfl rfl dX1_addEntry_47 ?_
    refine gf_X1_53 hC dX1_addEntry_48 ?_
    refine at_iload (j := 4) hC rfl dX1_addEntry_51 ?_
    refine at_iast hC 45 dX1_addEntry_53 cl_45 st_45 ?_
    refine at_aload_n (j := 0) hC rfl rfl dX1_addEntry_54 ?_
    refine gf_X1_36 hC dX1_addEntry_55 ?_
    refine at_aload_n (j := 0) hC rfl rfl dX1_addEntry_58 ?_
    refine gf_X1_53 hC dX1_addEntry_59 ?_
    refine at_iload (j := 5) hC rfl dX1_addEntry_62 ?_
    refine at_iast hC 46 dX1_addEntry_64 cl_46 st_46 ?_
    refine at_aload_n (j := 0) hC rfl rfl dX1_addEntry_65 ?_
    refine gf_X1_39 hC dX1_addEntry_66 ?_
    refine at_aload_n (j := 0) hC rfl rfl dX1_addEntry_69 ?_
    refine gf_X1_53 hC dX1_addEntry_70 ?_
    refine at_sipush hC si_200 dX1_addEntry_73 ?_
    refine at_iast hC 47 dX1_addEntry_76 cl_47 st_47 ?_
    refine at_iload_n (j := 1) hC rfl rfl dX1_addEntry_77 ?_
    refine at_iconst hC ic_2 dX1_addEntry_78 ?_
    refine at_icmp_ne (tgt := 87) hC dX1_addEntry_79 rfl (fun _ => ?_) (fun _ => ?_)
    · refine at_drop (lv' := [(0, .ref 37), (1, .int p0), (2, .int p1)]) [0, 1, 2] rfl ?_
      exact t_Bk_addEntry_J87 hC hR (xA (xA (xA (xA (xA (xA τ 107 (upd (τ.2.1 107) (τ.1 113).toNatClampNeg p0)) 108 (upd ((xA τ 107 (upd (τ.2.1 107) (τ.1 113).toNatClampNeg p0)).2.1 108) ((xA τ 107 (upd (τ.2.1 107) (τ.1 113).toNatClampNeg p0)).1 113).toNatClampNeg p1)) 109 (upd ((xA (xA τ 107 (upd (τ.2.1 107) (τ.1 113).toNatClampNeg p0)) 108 (upd ((xA τ 107 (upd (τ.2.1 107) (τ.1 113).toNatClampNeg p0)).2.1 108) ((xA τ 107 (upd (τ.2.1 107) (τ.1 113).toNatClampNeg p0)).1 113).toNatClampNeg p1)).2.1 109) ((xA (xA τ 107 (upd (τ.2.1 107) (τ.1 113).toNatClampNeg p0)) 108 (upd ((xA τ 107 (upd (τ.2.1 107) (τ.1 113).toNatClampNeg p0)).2.1 108) ((xA τ 107 (upd (τ.2.1 107) (τ.1 113).toNatClampNeg p0)).1 113).toNatClampNeg p1)).1 113).toNatClampNeg p2)) 110 (upd ((xA (xA (xA τ 107 (upd (τ.2.1 107) (τ.1 113).toNatClampNeg p0)) 108 (upd ((xA τ 107 (upd (τ.2.1 107) (τ.1 113).toNatClampNeg p0)).2.1 108) ((xA τ 107 (upd (τ.2.1 107) (τ.1 113).toNatClampNeg p0)).1 113).toNatClampNeg p1)) 109 (upd ((xA (xA τ 107 (upd (τ.2.1 107) (τ.1 113).toNatClampNeg p0)) 108 (upd ((xA τ 107 (upd (τ.2.1 107) (τ.1 113).toNatClampNeg p0)).2.1 108) ((xA τ 107 (upd (τ.2.1 107) (τ.1 113).toNatClampNeg p0)).1 113).toNatClampNeg p1)).2.1 109) ((xA (xA τ 107 (upd (τ.2.1 107) (τ.1 113).toNatClampNeg p0)) 108 (upd ((xA τ 107 (upd (τ.2.1 107) (τ.1 113).toNatClampNeg p0)).2.1 108) ((xA τ 107 (upd (τ.2.1 107) (τ.1 113).toNatClampNeg p0)).1 113).toNatClampNeg p1)).1 113).toNatClampNeg p2)).2.1 110) ((xA (xA (xA τ 107 (upd (τ.2.1 107) (τ.1 113).toNatClampNeg p0)) 108 (upd ((xA τ 107 (upd (τ.2.1 107) (τ.1 113).toNatClampNeg p0)).2.1 108) ((xA τ 107 (upd (τ.2.1 107) (τ.1 113).toNatClampNeg p0)).1 113).toNatClampNeg p1)) 109 (upd ((xA (xA τ 107 (upd (τ.2.1 107) (τ.1 113).toNatClampNeg p0)) 108 (upd ((xA τ 107 (upd (τ.2.1 107) (τ.1 113).toNatClampNeg p0)).2.1 108) ((xA τ 107 (upd (τ.2.1 107) (τ.1 113).toNatClampNeg p0)).1 113).toNatClampNeg p1)).2.1 109) ((xA (xA τ 107 (upd (τ.2.1 107) (τ.1 113).toNatClampNeg p0)) 108 (upd ((xA τ 107 (upd (τ.2.1 107) (τ.1 113).toNatClampNeg p0)).2.1 108) ((xA τ 107 (upd (τ.2.1 107) (τ.1 113).toNatClampNeg p0)).1 113).toNatClampNeg p1)).1 113).toNatClampNeg p2)).1 113).toNatClampNeg p3)) 111 (upd ((xA (xA (xA (xA τ 107 (upd (τ.2.1 107) (τ.1 113).toNatClampNeg p0)) 108 (upd ((xA τ 107 (upd (τ.2.1 107) (τ.1 113).toNatClampNeg p0)).2.1 108) ((xA τ 107 (upd (τ.2.1 107) (τ.1 113).toNatClampNeg p0)).1 113).toNatClampNeg p1)) 109 (upd ((xA (xA τ 107 (upd (τ.2.1 107) (τ.1 113).toNatClampNeg p0)) 108 (upd ((xA τ 107 (upd (τ.2.1 107) (τ.1 113).toNatClampNeg p0)).2.1 108) ((xA τ 107 (upd (τ.2.1 107) (τ.1 113).toNatClampNeg p0)).1 113).toNatClampNeg p1)).2.1 109) ((xA (xA τ 107 (upd (τ.2.1 107) (τ.1 113).toNatClampNeg p0)) 108 (upd ((xA τ 107 (upd (τ.2.1 107) (τ.1 113).toNatClampNeg p0)).2.1 108) ((xA τ 107 (upd (τ.2.1 107) (τ.1 113).toNatClampNeg p0)).1 113).toNatClampNeg p1)).1 113).toNatClampNeg p2)) 110 (upd ((xA (xA (xA τ 107 (upd (τ.2.1 107) (τ.1 113).toNatClampNeg p0)) 108 (upd ((xA τ 107 (upd (τ.2.1 107) (τ.1 113).toNatClampNeg p0)).2.1 108) ((xA τ 107 (upd (τ.2.1 107) (τ.1 113).toNatClampNeg p0)).1 113).toNatClampNeg p1)) 109 (upd ((xA (xA τ 107 (upd (τ.2.1 107) (τ.1 113).toNatClampNeg p0)) 108 (upd ((xA τ 107 (upd (τ.2.1 107) (τ.1 113).toNatClampNeg p0)).2.1 108) ((xA τ 107 (upd (τ.2.1 107) (τ.1 113).toNatClampNeg p0)).1 113).toNatClampNeg p1)).2.1 109) ((xA (xA τ 107 (upd (τ.2.1 107) (τ.1 113).toNatClampNeg p0)) 108 (upd ((xA τ 107 (upd (τ.2.1 107) (τ.1 113).toNatClampNeg p0)).2.1 108) ((xA τ 107 (upd (τ.2.1 107) (τ.1 113).toNatClampNeg p0)).1 113).toNatClampNeg p1)).1 113).toNatClampNeg p2)).2.1 110) ((xA (xA (xA τ 107 (upd (τ.2.1 107) (τ.1 113).toNatClampNeg p0)) 108 (upd ((xA τ 107 (upd (τ.2.1 107) (τ.1 113).toNatClampNeg p0)).2.1 108) ((xA τ 107 (upd (τ.2.1 107) (τ.1 113).toNatClampNeg p0)).1 113).toNatClampNeg p1)) 109 (upd ((xA (xA τ 107 (upd (τ.2.1 107) (τ.1 113).toNatClampNeg p0)) 108 (upd ((xA τ 107 (upd (τ.2.1 107) (τ.1 113).toNatClampNeg p0)).2.1 108) ((xA τ 107 (upd (τ.2.1 107) (τ.1 113).toNatClampNeg p0)).1 113).toNatClampNeg p1)).2.1 109) ((xA (xA τ 107 (upd (τ.2.1 107) (τ.1 113).toNatClampNeg p0)) 108 (upd ((xA τ 107 (upd (τ.2.1 107) (τ.1 113).toNatClampNeg p0)).2.1 108) ((xA τ 107 (upd (τ.2.1 107) (τ.1 113).toNatClampNeg p0)).1 113).toNatClampNeg p1)).1 113).toNatClampNeg p2)).1 113).toNatClampNeg p3)).2.1 111) ((xA (xA (xA (xA τ 107 (upd (τ.2.1 107) (τ.1 113).toNatClampNeg p0)) 108 (upd ((xA τ 107 (upd (τ.2.1 107) (τ.1 113).toNatClampNeg p0)).2.1 108) ((xA τ 107 (upd (τ.2.1 107) (τ.1 113).toNatClampNeg p0)).1 113).toNatClampNeg p1)) 109 (upd ((xA (xA τ 107 (upd (τ.2.1 107) (τ.1 113).toNatClampNeg p0)) 108 (upd ((xA τ 107 (upd (τ.2.1 107) (τ.1 113).toNatClampNeg p0)).2.1 108) ((xA τ 107 (upd (τ.2.1 107) (τ.1 113).toNatClampNeg p0)).1 113).toNatClampNeg p1)).2.1 109) ((xA (xA τ 107 (upd (τ.2.1 107) (τ.1 113).toNatClampNeg p0)) 108 (upd ((xA τ 107 (upd (τ.2.1 107) (τ.1 113).toNatClampNeg p0)).2.1 108) ((xA τ 107 (upd (τ.2.1 107) (τ.1 113).toNatClampNeg p0)).1 113).toNatClampNeg p1)).1 113).toNatClampNeg p2)) 110 (upd ((xA (xA (xA τ 107 (upd (τ.2.1 107) (τ.1 113).toNatClampNeg p0)) 108 (upd ((xA τ 107 (upd (τ.2.1 107) (τ.1 113).toNatClampNeg p0)).2.1 108) ((xA τ 107 (upd (τ.2.1 107) (τ.1 113).toNatClampNeg p0)).1 113).toNatClampNeg p1)) 109 (upd ((xA (xA τ 107 (upd (τ.2.1 107) (τ.1 113).toNatClampNeg p0)) 108 (upd ((xA τ 107 (upd (τ.2.1 107) (τ.1 113).toNatClampNeg p0)).2.1 108) ((xA τ 107 (upd (τ.2.1 107) (τ.1 113).toNatClampNeg p0)).1 113).toNatClampNeg p1)).2.1 109) ((xA (xA τ 107 (upd (τ.2.1 107) (τ.1 113).toNatClampNeg p0)) 108 (upd ((xA τ 107 (upd (τ.2.1 107) (τ.1 113).toNatClampNeg p0)).2.1 108) ((xA τ 107 (upd (τ.2.1 107) (τ.1 113).toNatClampNeg p0)).1 113).toNatClampNeg p1)).1 113).toNatClampNeg p2)).2.1 110) ((xA (xA (xA τ 107 (upd (τ.2.1 107) (τ.1 113).toNatClampNeg p0)) 108 (upd ((xA τ 107 (upd (τ.2.1 107) (τ.1 113).toNatClampNeg p0)).2.1 108) ((xA τ 107 (upd (τ.2.1 107) (τ.1 113).toNatClampNeg p0)).1 113).toNatClampNeg p1)) 109 (upd ((xA (xA τ 107 (upd (τ.2.1 107) (τ.1 113).toNatClampNeg p0)) 108 (upd ((xA τ 107 (upd (τ.2.1 107) (τ.1 113).toNatClampNeg p0)).2.1 108) ((xA τ 107 (upd (τ.2.1 107) (τ.1 113).toNatClampNeg p0)).1 113).toNatClampNeg p1)).2.1 109) ((xA (xA τ 107 (upd (τ.2.1 107) (τ.1 113).toNatClampNeg p0)) 108 (upd ((xA τ 107 (upd (τ.2.1 107) (τ.1 113).toNatClampNeg p0)).2.1 108) ((xA τ 107 (upd (τ.2.1 107) (τ.1 113).toNatClampNeg p0)).1 113).toNatClampNeg p1)).1 113).toNatClampNeg p2)).1 113).toNatClampNeg p3)).1 113).toNatClampNeg p4)) 112 (upd ((xA (xA (xA (xA (xA τ 107 (upd (τ.2.1 107) (τ.1 113).toNatClampNeg p0)) 108 (upd ((xA τ 107 (upd (τ.2.1 107) (τ.1 113).toNatClampNeg p0)).2.1 108) ((xA τ 107 (upd (τ.2.1 107) (τ.1 113).toNatClampNeg p0)).1 113).toNatClampNeg p1)) 109 (upd ((xA (xA τ 107 (upd (τ.2.1 107) (τ.1 113).toNatClampNeg p0)) 108 (upd ((xA τ 107 (upd (τ.2.1 107) (τ.1 113).toNatClampNeg p0)).2.1 108) ((xA τ 107 (upd (τ.2.1 107) (τ.1 113).toNatClampNeg p0)).1 113).toNatClampNeg p1)).2.1 109) ((xA (xA τ 107 (upd (τ.2.1 107) (τ.1 113).toNatClampNeg p0)) 108 (upd ((xA τ 107 (upd (τ.2.1 107) (τ.1 113).toNatClampNeg p0)).2.1 108) ((xA τ 107 (upd (τ.2.1 107) (τ.1 113).toNatClampNeg p0)).1 113).toNatClampNeg p1)).1 113).toNatClampNeg p2)) 110 (upd ((xA (xA (xA τ 107 (upd (τ.2.1 107) (τ.1 113).toNatClampNeg p0)) 108 (upd ((xA τ 107 (upd (τ.2.1 107) (τ.1 113).toNatClampNeg p0)).2.1 108) ((xA τ 107 (upd (τ.2.1 107) (τ.1 113).toNatClampNeg p0)).1 113).toNatClampNeg p1)) 109 (upd ((xA (xA τ 107 (upd (τ.2.1 107) (τ.1 113).toNatClampNeg p0)) 108 (upd ((xA τ 107 (upd (τ.2.1 107) (τ.1 113).toNatClampNeg p0)).2.1 108) ((xA τ 107 (upd (τ.2.1 107) (τ.1 113).toNatClampNeg p0)).1 113).toNatClampNeg p1)).2.1 109) ((xA (xA τ 107 (upd (τ.2.1 107) (τ.1 113).toNatClampNeg p0)) 108 (upd ((xA τ 107 (upd (τ.2.1 107) (τ.1 113).toNatClampNeg p0)).2.1 108) ((xA τ 107 (upd (τ.2.1 107) (τ.1 113).toNatClampNeg p0)).1 113).toNatClampNeg p1)).1 113).toNatClampNeg p2)).2.1 110) ((xA (xA (xA τ 107 (upd (τ.2.1 107) (τ.1 113).toNatClampNeg p0)) 108 (upd ((xA τ 107 (upd (τ.2.1 107) (τ.1 113).toNatClampNeg p0)).2.1 108) ((xA τ 107 (upd (τ.2.1 107) (τ.1 113).toNatClampNeg p0)).1 113).toNatClampNeg p1)) 109 (upd ((xA (xA τ 107 (upd (τ.2.1 107) (τ.1 113).toNatClampNeg p0)) 108 (upd ((xA τ 107 (upd (τ.2.1 107) (τ.1 113).toNatClampNeg p0)).2.1 108) ((xA τ 107 (upd (τ.2.1 107) (τ.1 113).toNatClampNeg p0)).1 113).toNatClampNeg p1)).2.1 109) ((xA (xA τ 107 (upd (τ.2.1 107) (τ.1 113).toNatClampNeg p0)) 108 (upd ((xA τ 107 (upd (τ.2.1 107) (τ.1 113).toNatClampNeg p0)).2.1 108) ((xA τ 107 (upd (τ.2.1 107) (τ.1 113).toNatClampNeg p0)).1 113).toNatClampNeg p1)).1 113).toNatClampNeg p2)).1 113).toNatClampNeg p3)) 111 (upd ((xA (xA (xA (xA τ 107 (upd (τ.2.1 107) (τ.1 113).toNatClampNeg p0)) 108 (upd ((xA τ 107 (upd (τ.2.1 107) (τ.1 113).toNatClampNeg p0)).2.1 108) ((xA τ 107 (upd (τ.2.1 107) (τ.1 113).toNatClampNeg p0)).1 113).toNatClampNeg p1)) 109 (upd ((xA (xA τ 107 (upd (τ.2.1 107) (τ.1 113).toNatClampNeg p0)) 108 (upd ((xA τ 107 (upd (τ.2.1 107) (τ.1 113).toNatClampNeg p0)).2.1 108) ((xA τ 107 (upd (τ.2.1 107) (τ.1 113).toNatClampNeg p0)).1 113).toNatClampNeg p1)).2.1 109) ((xA (xA τ 107 (upd (τ.2.1 107) (τ.1 113).toNatClampNeg p0)) 108 (upd ((xA τ 107 (upd (τ.2.1 107) (τ.1 113).toNatClampNeg p0)).2.1 108) ((xA τ 107 (upd (τ.2.1 107) (τ.1 113).toNatClampNeg p0)).1 113).toNatClampNeg p1)).1 113).toNatClampNeg p2)) 110 (upd ((xA (xA (xA τ 107 (upd (τ.2.1 107) (τ.1 113).toNatClampNeg p0)) 108 (upd ((xA τ 107 (upd (τ.2.1 107) (τ.1 113).toNatClampNeg p0)).2.1 108) ((xA τ 107 (upd (τ.2.1 107) (τ.1 113).toNatClampNeg p0)).1 113).toNatClampNeg p1)) 109 (upd ((xA (xA τ 107 (upd (τ.2.1 107) (τ.1 113).toNatClampNeg p0)) 108 (upd ((xA τ 107 (upd (τ.2.1 107) (τ.1 113).toNatClampNeg p0)).2.1 108) ((xA τ 107 (upd (τ.2.1 107) (τ.1 113).toNatClampNeg p0)).1 113).toNatClampNeg p1)).2.1 109) ((xA (xA τ 107 (upd (τ.2.1 107) (τ.1 113).toNatClampNeg p0)) 108 (upd ((xA τ 107 (upd (τ.2.1 107) (τ.1 113).toNatClampNeg p0)).2.1 108) ((xA τ 107 (upd (τ.2.1 107) (τ.1 113).toNatClampNeg p0)).1 113).toNatClampNeg p1)).1 113).toNatClampNeg p2)).2.1 110) ((xA (xA (xA τ 107 (upd (τ.2.1 107) (τ.1 113).toNatClampNeg p0)) 108 (upd ((xA τ 107 (upd (τ.2.1 107) (τ.1 113).toNatClampNeg p0)).2.1 108) ((xA τ 107 (upd (τ.2.1 107) (τ.1 113).toNatClampNeg p0)).1 113).toNatClampNeg p1)) 109 (upd ((xA (xA τ 107 (upd (τ.2.1 107) (τ.1 113).toNatClampNeg p0)) 108 (upd ((xA τ 107 (upd (τ.2.1 107) (τ.1 113).toNatClampNeg p0)).2.1 108) ((xA τ 107 (upd (τ.2.1 107) (τ.1 113).toNatClampNeg p0)).1 113).toNatClampNeg p1)).2.1 109) ((xA (xA τ 107 (upd (τ.2.1 107) (τ.1 113).toNatClampNeg p0)) 108 (upd ((xA τ 107 (upd (τ.2.1 107) (τ.1 113).toNatClampNeg p0)).2.1 108) ((xA τ 107 (upd (τ.2.1 107) (τ.1 113).toNatClampNeg p0)).1 113).toNatClampNeg p1)).1 113).toNatClampNeg p2)).1 113).toNatClampNeg p3)).2.1 111) ((xA (xA (xA (xA τ 107 (upd (τ.2.1 107) (τ.1 113).toNatClampNeg p0)) 108 (upd ((xA τ 107 (upd (τ.2.1 107) (τ.1 113).toNatClampNeg p0)).2.1 108) ((xA τ 107 (upd (τ.2.1 107) (τ.1 113).toNatClampNeg p0)).1 113).toNatClampNeg p1)) 109 (upd ((xA (xA τ 107 (upd (τ.2.1 107) (τ.1 113).toNatClampNeg p0)) 108 (upd ((xA τ 107 (upd (τ.2.1 107) (τ.1 113).toNatClampNeg p0)).2.1 108) ((xA τ 107 (upd (τ.2.1 107) (τ.1 113).toNatClampNeg p0)).1 113).toNatClampNeg p1)).2.1 109) ((xA (xA τ 107 (upd (τ.2.1 107) (τ.1 113).toNatClampNeg p0)) 108 (upd ((xA τ 107 (upd (τ.2.1 107) (τ.1 113).toNatClampNeg p0)).2.1 108) ((xA τ 107 (upd (τ.2.1 107) (τ.1 113).toNatClampNeg p0)).1 113).toNatClampNeg p1)).1 113).toNatClampNeg p2)) 110 (upd ((xA (xA (xA τ 107 (upd (τ.2.1 107) (τ.1 113).toNatClampNeg p0)) 108 (upd ((xA τ 107 (upd (τ.2.1 107) (τ.1 113).toNatClampNeg p0)).2.1 108) ((xA τ 107 (upd (τ.2.1 107) (τ.1 113).toNatClampNeg p0)).1 113).toNatClampNeg p1)) 109 (upd ((xA (xA τ 107 (upd (τ.2.1 107) (τ.1 113).toNatClampNeg p0)) 108 (upd ((xA τ 107 (upd (τ.2.1 107) (τ.1 113).toNatClampNeg p0)).2.1 108) ((xA τ 107 (upd (τ.2.1 107) (τ.1 113).toNatClampNeg p0)).1 113).toNatClampNeg p1)).2.1 109) ((xA (xA τ 107 (upd (τ.2.1 107) (τ.1 113).toNatClampNeg p0)) 108 (upd ((xA τ 107 (upd (τ.2.1 107) (τ.1 113).toNatClampNeg p0)).2.1 108) ((xA τ 107 (upd (τ.2.1 107) (τ.1 113).toNatClampNeg p0)).1 113).toNatClampNeg p1)).1 113).toNatClampNeg p2)).2.1 110) ((xA (xA (xA τ 107 (upd (τ.2.1 107) (τ.1 113).toNatClampNeg p0)) 108 (upd ((xA τ 107 (upd (τ.2.1 107) (τ.1 113).toNatClampNeg p0)).2.1 108) ((xA τ 107 (upd (τ.2.1 107) (τ.1 113).toNatClampNeg p0)).1 113).toNatClampNeg p1)) 109 (upd ((xA (xA τ 107 (upd (τ.2.1 107) (τ.1 113).toNatClampNeg p0)) 108 (upd ((xA τ 107 (upd (τ.2.1 107) (τ.1 113).toNatClampNeg p0)).2.1 108) ((xA τ 107 (upd (τ.2.1 107) (τ.1 113).toNatClampNeg p0)).1 113).toNatClampNeg p1)).2.1 109) ((xA (xA τ 107 (upd (τ.2.1 107) (τ.1 113).toNatClampNeg p0)) 108 (upd ((xA τ 107 (upd (τ.2.1 107) (τ.1 113).toNatClampNeg p0)).2.1 108) ((xA τ 107 (upd (τ.2.1 107) (τ.1 113).toNatClampNeg p0)).1 113).toNatClampNeg p1)).1 113).toNatClampNeg p2)).1 113).toNatClampNeg p3)).1 113).toNatClampNeg p4)).2.1 112) ((xA (xA (xA (xA (xA τ 107 (upd (τ.2.1 107) (τ.1 113).toNatClampNeg p0)) 108 (upd ((xA τ 107 (upd (τ.2.1 107) (τ.1 113).toNatClampNeg p0)).2.1 108) ((xA τ 107 (upd (τ.2.1 107) (τ.1 113).toNatClampNeg p0)).1 113).toNatClampNeg p1)) 109 (upd ((xA (xA τ 107 (upd (τ.2.1 107) (τ.1 113).toNatClampNeg p0)) 108 (upd ((xA τ 107 (upd (τ.2.1 107) (τ.1 113).toNatClampNeg p0)).2.1 108) ((xA τ 107 (upd (τ.2.1 107) (τ.1 113).toNatClampNeg p0)).1 113).toNatClampNeg p1)).2.1 109) ((xA (xA τ 107 (upd (τ.2.1 107) (τ.1 113).toNatClampNeg p0)) 108 (upd ((xA τ 107 (upd (τ.2.1 107) (τ.1 113).toNatClampNeg p0)).2.1 108) ((xA τ 107 (upd (τ.2.1 107) (τ.1 113).toNatClampNeg p0)).1 113).toNatClampNeg p1)).1 113).toNatClampNeg p2)) 110 (upd ((xA (xA (xA τ 107 (upd (τ.2.1 107) (τ.1 113).toNatClampNeg p0)) 108 (upd ((xA τ 107 (upd (τ.2.1 107) (τ.1 113).toNatClampNeg p0)).2.1 108) ((xA τ 107 (upd (τ.2.1 107) (τ.1 113).toNatClampNeg p0)).1 113).toNatClampNeg p1)) 109 (upd ((xA (xA τ 107 (upd (τ.2.1 107) (τ.1 113).toNatClampNeg p0)) 108 (upd ((xA τ 107 (upd (τ.2.1 107) (τ.1 113).toNatClampNeg p0)).2.1 108) ((xA τ 107 (upd (τ.2.1 107) (τ.1 113).toNatClampNeg p0)).1 113).toNatClampNeg p1)).2.1 109) ((xA (xA τ 107 (upd (τ.2.1 107) (τ.1 113).toNatClampNeg p0)) 108 (upd ((xA τ 107 (upd (τ.2.1 107) (τ.1 113).toNatClampNeg p0)).2.1 108) ((xA τ 107 (upd (τ.2.1 107) (τ.1 113).toNatClampNeg p0)).1 113).toNatClampNeg p1)).1 113).toNatClampNeg p2)).2.1 110) ((xA (xA (xA τ 107 (upd (τ.2.1 107) (τ.1 113).toNatClampNeg p0)) 108 (upd ((xA τ 107 (upd (τ.2.1 107) (τ.1 113).toNatClampNeg p0)).2.1 108) ((xA τ 107 (upd (τ.2.1 107) (τ.1 113).toNatClampNeg p0)).1 113).toNatClampNeg p1)) 109 (upd ((xA (xA τ 107 (upd (τ.2.1 107) (τ.1 113).toNatClampNeg p0)) 108 (upd ((xA τ 107 (upd (τ.2.1 107) (τ.1 113).toNatClampNeg p0)).2.1 108) ((xA τ 107 (upd (τ.2.1 107) (τ.1 113).toNatClampNeg p0)).1 113).toNatClampNeg p1)).2.1 109) ((xA (xA τ 107 (upd (τ.2.1 107) (τ.1 113).toNatClampNeg p0)) 108 (upd ((xA τ 107 (upd (τ.2.1 107) (τ.1 113).toNatClampNeg p0)).2.1 108) ((xA τ 107 (upd (τ.2.1 107) (τ.1 113).toNatClampNeg p0)).1 113).toNatClampNeg p1)).1 113).toNatClampNeg p2)).1 113).toNatClampNeg p3)) 111 (upd ((xA (xA (xA (xA τ 107 (upd (τ.2.1 107) (τ.1 113).toNatClampNeg p0)) 108 (upd ((xA τ 107 (upd (τ.2.1 107) (τ.1 113).toNatClampNeg p0)).2.1 108) ((xA τ 107 (upd (τ.2.1 107) (τ.1 113).toNatClampNeg p0)).1 113).toNatClampNeg p1)) 109 (upd ((xA (xA τ 107 (upd (τ.2.1 107) (τ.1 113).toNatClampNeg p0)) 108 (upd ((xA τ 107 (upd (τ.2.1 107) (τ.1 113).toNatClampNeg p0)).2.1 108) ((xA τ 107 (upd (τ.2.1 107) (τ.1 113).toNatClampNeg p0)).1 113).toNatClampNeg p1)).2.1 109) ((xA (xA τ 107 (upd (τ.2.1 107) (τ.1 113).toNatClampNeg p0)) 108 (upd ((xA τ 107 (upd (τ.2.1 107) (τ.1 113).toNatClampNeg p0)).2.1 108) ((xA τ 107 (upd (τ.2.1 107) (τ.1 113).toNatClampNeg p0)).1 113).toNatClampNeg p1)).1 113).toNatClampNeg p2)) 110 (upd ((xA (xA (xA τ 107 (upd (τ.2.1 107) (τ.1 113).toNatClampNeg p0)) 108 (upd ((xA τ 107 (upd (τ.2.1 107) (τ.1 113).toNatClampNeg p0)).2.1 108) ((xA τ 107 (upd (τ.2.1 107) (τ.1 113).toNatClampNeg p0)).1 113).toNatClampNeg p1)) 109 (upd ((xA (xA τ 107 (upd (τ.2.1 107) (τ.1 113).toNatClampNeg p0)) 108 (upd ((xA τ 107 (upd (τ.2.1 107) (τ.1 113).toNatClampNeg p0)).2.1 108) ((xA τ 107 (upd (τ.2.1 107) (τ.1 113).toNatClampNeg p0)).1 113).toNatClampNeg p1)).2.1 109) ((xA (xA τ 107 (upd (τ.2.1 107) (τ.1 113).toNatClampNeg p0)) 108 (upd ((xA τ 107 (upd (τ.2.1 107) (τ.1 113).toNatClampNeg p0)).2.1 108) ((xA τ 107 (upd (τ.2.1 107) (τ.1 113).toNatClampNeg p0)).1 113).toNatClampNeg p1)).1 113).toNatClampNeg p2)).2.1 110) ((xA (xA (xA τ 107 (upd (τ.2.1 107) (τ.1 113).toNatClampNeg p0)) 108 (upd ((xA τ 107 (upd (τ.2.1 107) (τ.1 113).toNatClampNeg p0)).2.1 108) ((xA τ 107 (upd (τ.2.1 107) (τ.1 113).toNatClampNeg p0)).1 113).toNatClampNeg p1)) 109 (upd ((xA (xA τ 107 (upd (τ.2.1 107) (τ.1 113).toNatClampNeg p0)) 108 (upd ((xA τ 107 (upd (τ.2.1 107) (τ.1 113).toNatClampNeg p0)).2.1 108) ((xA τ 107 (upd (τ.2.1 107) (τ.1 113).toNatClampNeg p0)).1 113).toNatClampNeg p1)).2.1 109) ((xA (xA τ 107 (upd (τ.2.1 107) (τ.1 113).toNatClampNeg p0)) 108 (upd ((xA τ 107 (upd (τ.2.1 107) (τ.1 113).toNatClampNeg p0)).2.1 108) ((xA τ 107 (upd (τ.2.1 107) (τ.1 113).toNatClampNeg p0)).1 113).toNatClampNeg p1)).1 113).toNatClampNeg p2)).1 113).toNatClampNeg p3)).2.1 111) ((xA (xA (xA (xA τ 107 (upd (τ.2.1 107) (τ.1 113).toNatClampNeg p0)) 108 (upd ((xA τ 107 (upd (τ.2.1 107) (τ.1 113).toNatClampNeg p0)).2.1 108) ((xA τ 107 (upd (τ.2.1 107) (τ.1 113).toNatClampNeg p0)).1 113).toNatClampNeg p1)) 109 (upd ((xA (xA τ 107 (upd (τ.2.1 107) (τ.1 113).toNatClampNeg p0)) 108 (upd ((xA τ 107 (upd (τ.2.1 107) (τ.1 113).toNatClampNeg p0)).2.1 108) ((xA τ 107 (upd (τ.2.1 107) (τ.1 113).toNatClampNeg p0)).1 113).toNatClampNeg p1)).2.1 109) ((xA (xA τ 107 (upd (τ.2.1 107) (τ.1 113).toNatClampNeg p0)) 108 (upd ((xA τ 107 (upd (τ.2.1 107) (τ.1 113).toNatClampNeg p0)).2.1 108) ((xA τ 107 (upd (τ.2.1 107) (τ.1 113).toNatClampNeg p0)).1 113).toNatClampNeg p1)).1 113).toNatClampNeg p2)) 110 (upd ((xA (xA (xA τ 107 (upd (τ.2.1 107) (τ.1 113).toNatClampNeg p0)) 108 (upd ((xA τ 107 (upd (τ.2.1 107) (τ.1 113).toNatClampNeg p0)).2.1 108) ((xA τ 107 (upd (τ.2.1 107) (τ.1 113).toNatClampNeg p0)).1 113).toNatClampNeg p1)) 109 (upd ((xA (xA τ 107 (upd (τ.2.1 107) (τ.1 113).toNatClampNeg p0)) 108 (upd ((xA τ 107 (upd (τ.2.1 107) (τ.1 113).toNatClampNeg p0)).2.1 108) ((xA τ 107 (upd (τ.2.1 107) (τ.1 113).toNatClampNeg p0)).1 113).toNatClampNeg p1)).2.1 109) ((xA (xA τ 107 (upd (τ.2.1 107) (τ.1 113).toNatClampNeg p0)) 108 (upd ((xA τ 107 (upd (τ.2.1 107) (τ.1 113).toNatClampNeg p0)).2.1 108) ((xA τ 107 (upd (τ.2.1 107) (τ.1 113).toNatClampNeg p0)).1 113).toNatClampNeg p1)).1 113).toNatClampNeg p2)).2.1 110) ((xA (xA (xA τ 107 (upd (τ.2.1 107) (τ.1 113).toNatClampNeg p0)) 108 (upd ((xA τ 107 (upd (τ.2.1 107) (τ.1 113).toNatClampNeg p0)).2.1 108) ((xA τ 107 (upd (τ.2.1 107) (τ.1 113).toNatClampNeg p0)).1 113).toNatClampNeg p1)) 109 (upd ((xA (xA τ 107 (upd (τ.2.1 107) (τ.1 113).toNatClampNeg p0)) 108 (upd ((xA τ 107 (upd (τ.2.1 107) (τ.1 113).toNatClampNeg p0)).2.1 108) ((xA τ 107 (upd (τ.2.1 107) (τ.1 113).toNatClampNeg p0)).1 113).toNatClampNeg p1)).2.1 109) ((xA (xA τ 107 (upd (τ.2.1 107) (τ.1 113).toNatClampNeg p0)) 108 (upd ((xA τ 107 (upd (τ.2.1 107) (τ.1 113).toNatClampNeg p0)).2.1 108) ((xA τ 107 (upd (τ.2.1 107) (τ.1 113).toNatClampNeg p0)).1 113).toNatClampNeg p1)).1 113).toNatClampNeg p2)).1 113).toNatClampNeg p3)).1 113).toNatClampNeg p4)).1 113).toNatClampNeg 200)) p0 p1
    · refine at_aload_n (j := 0) hC rfl rfl dX1_addEntry_82 ?_
      refine at_iconst hC ic_1 dX1_addEntry_83 ?_
      refine pf_X1_62 hC (Or.inr rfl) dX1_addEntry_84 ?_
      refine at_drop (lv' := [(0, .ref 37), (1, .int p0), (2, .int p1)]) [0, 1, 2] rfl ?_
      exact t_Bk_addEntry_J87 hC hR (xI (xA (xA (xA (xA (xA (xA τ 107 (upd (τ.2.1 107) (τ.1 113).toNatClampNeg p0)) 108 (upd ((xA τ 107 (upd (τ.2.1 107) (τ.1 113).toNatClampNeg p0)).2.1 108) ((xA τ 107 (upd (τ.2.1 107) (τ.1 113).toNatClampNeg p0)).1 113).toNatClampNeg p1)) 109 (upd ((xA (xA τ 107 (upd (τ.2.1 107) (τ.1 113).toNatClampNeg p0)) 108 (upd ((xA τ 107 (upd (τ.2.1 107) (τ.1 113).toNatClampNeg p0)).2.1 108) ((xA τ 107 (upd (τ.2.1 107) (τ.1 113).toNatClampNeg p0)).1 113).toNatClampNeg p1)).2.1 109) ((xA (xA τ 107 (upd (τ.2.1 107) (τ.1 113).toNatClampNeg p0)) 108 (upd ((xA τ 107 (upd (τ.2.1 107) (τ.1 113).toNatClampNeg p0)).2.1 108) ((xA τ 107 (upd (τ.2.1 107) (τ.1 113).toNatClampNeg p0)).1 113).toNatClampNeg p1)).1 113).toNatClampNeg p2)) 110 (upd ((xA (xA (xA τ 107 (upd (τ.2.1 107) (τ.1 113).toNatClampNeg p0)) 108 (upd ((xA τ 107 (upd (τ.2.1 107) (τ.1 113).toNatClampNeg p0)).2.1 108) ((xA τ 107 (upd (τ.2.1 107) (τ.1 113).toNatClampNeg p0)).1 113).toNatClampNeg p1)) 109 (upd ((xA (xA τ 107 (upd (τ.2.1 107) (τ.1 113).toNatClampNeg p0)) 108 (upd ((xA τ 107 (upd (τ.2.1 107) (τ.1 113).toNatClampNeg p0)).2.1 108) ((xA τ 107 (upd (τ.2.1 107) (τ.1 113).toNatClampNeg p0)).1 113).toNatClampNeg p1)).2.1 109) ((xA (xA τ 107 (upd (τ.2.1 107) (τ.1 113).toNatClampNeg p0)) 108 (upd ((xA τ 107 (upd (τ.2.1 107) (τ.1 113).toNatClampNeg p0)).2.1 108) ((xA τ 107 (upd (τ.2.1 107) (τ.1 113).toNatClampNeg p0)).1 113).toNatClampNeg p1)).1 113).toNatClampNeg p2)).2.1 110) ((xA (xA (xA τ 107 (upd (τ.2.1 107) (τ.1 113).toNatClampNeg p0)) 108 (upd ((xA τ 107 (upd (τ.2.1 107) (τ.1 113).toNatClampNeg p0)).2.1 108) ((xA τ 107 (upd (τ.2.1 107) (τ.1 113).toNatClampNeg p0)).1 113).toNatClampNeg p1)) 109 (upd ((xA (xA τ 107 (upd (τ.2.1 107) (τ.1 113).toNatClampNeg p0)) 108 (upd ((xA τ 107 (upd (τ.2.1 107) (τ.1 113).toNatClampNeg p0)).2.1 108) ((xA τ 107 (upd (τ.2.1 107) (τ.1 113).toNatClampNeg p0)).1 113).toNatClampNeg p1)).2.1 109) ((xA (xA τ 107 (upd (τ.2.1 107) (τ.1 113).toNatClampNeg p0)) 108 (upd ((xA τ 107 (upd (τ.2.1 107) (τ.1 113).toNatClampNeg p0)).2.1 108) ((xA τ 107 (upd (τ.2.1 107) (τ.1 113).toNatClampNeg p0)).1 113).toNatClampNeg p1)).1 113).toNatClampNeg p2)).1 113).toNatClampNeg p3)) 111 (upd ((xA (xA (xA (xA τ 107 (upd (τ.2.1 107) (τ.1 113).toNatClampNeg p0)) 108 (upd ((xA τ 107 (upd (τ.2.1 107) (τ.1 113).toNatClampNeg p0)).2.1 108) ((xA τ 107 (upd (τ.2.1 107) (τ.1 113).toNatClampNeg p0)).1 113).toNatClampNeg p1)) 109 (upd ((xA (xA τ 107 (upd (τ.2.1 107) (τ.1 113).toNatClampNeg p0)) 108 (upd ((xA τ 107 (upd (τ.2.1 107) (τ.1 113).toNatClampNeg p0)).2.1 108) ((xA τ 107 (upd (τ.2.1 107) (τ.1 113).toNatClampNeg p0)).1 113).toNatClampNeg p1)).2.1 109) ((xA (xA τ 107 (upd (τ.2.1 107) (τ.1 113).toNatClampNeg p0)) 108 (upd ((xA τ 107 (upd (τ.2.1 107) (τ.1 113).toNatClampNeg p0)).2.1 108) ((xA τ 107 (upd (τ.2.1 107) (τ.1 113).toNatClampNeg p0)).1 113).toNatClampNeg p1)).1 113).toNatClampNeg p2)) 110 (upd ((xA (xA (xA τ 107 (upd (τ.2.1 107) (τ.1 113).toNatClampNeg p0)) 108 (upd ((xA τ 107 (upd (τ.2.1 107) (τ.1 113).toNatClampNeg p0)).2.1 108) ((xA τ 107 (upd (τ.2.1 107) (τ.1 113).toNatClampNeg p0)).1 113).toNatClampNeg p1)) 109 (upd ((xA (xA τ 107 (upd (τ.2.1 107) (τ.1 113).toNatClampNeg p0)) 108 (upd ((xA τ 107 (upd (τ.2.1 107) (τ.1 113).toNatClampNeg p0)).2.1 108) ((xA τ 107 (upd (τ.2.1 107) (τ.1 113).toNatClampNeg p0)).1 113).toNatClampNeg p1)).2.1 109) ((xA (xA τ 107 (upd (τ.2.1 107) (τ.1 113).toNatClampNeg p0)) 108 (upd ((xA τ 107 (upd (τ.2.1 107) (τ.1 113).toNatClampNeg p0)).2.1 108) ((xA τ 107 (upd (τ.2.1 107) (τ.1 113).toNatClampNeg p0)).1 113).toNatClampNeg p1)).1 113).toNatClampNeg p2)).2.1 110) ((xA (xA (xA τ 107 (upd (τ.2.1 107) (τ.1 113).toNatClampNeg p0)) 108 (upd ((xA τ 107 (upd (τ.2.1 107) (τ.1 113).toNatClampNeg p0)).2.1 108) ((xA τ 107 (upd (τ.2.1 107) (τ.1 113).toNatClampNeg p0)).1 113).toNatClampNeg p1)) 109 (upd ((xA (xA τ 107 (upd (τ.2.1 107) (τ.1 113).toNatClampNeg p0)) 108 (upd ((xA τ 107 (upd (τ.2.1 107) (τ.1 113).toNatClampNeg p0)).2.1 108) ((xA τ 107 (upd (τ.2.1 107) (τ.1 113).toNatClampNeg p0)).1 113).toNatClampNeg p1)).2.1 109) ((xA (xA τ 107 (upd (τ.2.1 107) (τ.1 113).toNatClampNeg p0)) 108 (upd ((xA τ 107 (upd (τ.2.1 107) (τ.1 113).toNatClampNeg p0)).2.1 108) ((xA τ 107 (upd (τ.2.1 107) (τ.1 113).toNatClampNeg p0)).1 113).toNatClampNeg p1)).1 113).toNatClampNeg p2)).1 113).toNatClampNeg p3)).2.1 111) ((xA (xA (xA (xA τ 107 (upd (τ.2.1 107) (τ.1 113).toNatClampNeg p0)) 108 (upd ((xA τ 107 (upd (τ.2.1 107) (τ.1 113).toNatClampNeg p0)).2.1 108) ((xA τ 107 (upd (τ.2.1 107) (τ.1 113).toNatClampNeg p0)).1 113).toNatClampNeg p1)) 109 (upd ((xA (xA τ 107 (upd (τ.2.1 107) (τ.1 113).toNatClampNeg p0)) 108 (upd ((xA τ 107 (upd (τ.2.1 107) (τ.1 113).toNatClampNeg p0)).2.1 108) ((xA τ 107 (upd (τ.2.1 107) (τ.1 113).toNatClampNeg p0)).1 113).toNatClampNeg p1)).2.1 109) ((xA (xA τ 107 (upd (τ.2.1 107) (τ.1 113).toNatClampNeg p0)) 108 (upd ((xA τ 107 (upd (τ.2.1 107) (τ.1 113).toNatClampNeg p0)).2.1 108) ((xA τ 107 (upd (τ.2.1 107) (τ.1 113).toNatClampNeg p0)).1 113).toNatClampNeg p1)).1 113).toNatClampNeg p2)) 110 (upd ((xA (xA (xA τ 107 (upd (τ.2.1 107) (τ.1 113).toNatClampNeg p0)) 108 (upd ((xA τ 107 (upd (τ.2.1 107) (τ.1 113).toNatClampNeg p0)).2.1 108) ((xA τ 107 (upd (τ.2.1 107) (τ.1 113).toNatClampNeg p0)).1 113).toNatClampNeg p1)) 109 (upd ((xA (xA τ 107 (upd (τ.2.1 107) (τ.1 113).toNatClampNeg p0)) 108 (upd ((xA τ 107 (upd (τ.2.1 107) (τ.1 113).toNatClampNeg p0)).2.1 108) ((xA τ 107 (upd (τ.2.1 107) (τ.1 113).toNatClampNeg p0)).1 113).toNatClampNeg p1)).2.1 109) ((xA (xA τ 107 (upd (τ.2.1 107) (τ.1 113).toNatClampNeg p0)) 108 (upd ((xA τ 107 (upd (τ.2.1 107) (τ.1 113).toNatClampNeg p0)).2.1 108) ((xA τ 107 (upd (τ.2.1 107) (τ.1 113).toNatClampNeg p0)).1 113).toNatClampNeg p1)).1 113).toNatClampNeg p2)).2.1 110) ((xA (xA (xA τ 107 (upd (τ.2.1 107) (τ.1 113).toNatClampNeg p0)) 108 (upd ((xA τ 107 (upd (τ.2.1 107) (τ.1 113).toNatClampNeg p0)).2.1 108) ((xA τ 107 (upd (τ.2.1 107) (τ.1 113).toNatClampNeg p0)).1 113).toNatClampNeg p1)) 109 (upd ((xA (xA τ 107 (upd (τ.2.1 107) (τ.1 113).toNatClampNeg p0)) 108 (upd ((xA τ 107 (upd (τ.2.1 107) (τ.1 113).toNatClampNeg p0)).2.1 108) ((xA τ 107 (upd (τ.2.1 107) (τ.1 113).toNatClampNeg p0)).1 113).toNatClampNeg p1)).2.1 109) ((xA (xA τ 107 (upd (τ.2.1 107) (τ.1 113).toNatClampNeg p0)) 108 (upd ((xA τ 107 (upd (τ.2.1 107) (τ.1 113).toNatClampNeg p0)).2.1 108) ((xA τ 107 (upd (τ.2.1 107) (τ.1 113).toNatClampNeg p0)).1 113).toNatClampNeg p1)).1 113).toNatClampNeg p2)).1 113).toNatClampNeg p3)).1 113).toNatClampNeg p4)) 112 (upd ((xA (xA (xA (xA (xA τ 107 (upd (τ.2.1 107) (τ.1 113).toNatClampNeg p0)) 108 (upd ((xA τ 107 (upd (τ.2.1 107) (τ.1 113).toNatClampNeg p0)).2.1 108) ((xA τ 107 (upd (τ.2.1 107) (τ.1 113).toNatClampNeg p0)).1 113).toNatClampNeg p1)) 109 (upd ((xA (xA τ 107 (upd (τ.2.1 107) (τ.1 113).toNatClampNeg p0)) 108 (upd ((xA τ 107 (upd (τ.2.1 107) (τ.1 113).toNatClampNeg p0)).2.1 108) ((xA τ 107 (upd (τ.2.1 107) (τ.1 113).toNatClampNeg p0)).1 113).toNatClampNeg p1)).2.1 109) ((xA (xA τ 107 (upd (τ.2.1 107) (τ.1 113).toNatClampNeg p0)) 108 (upd ((xA τ 107 (upd (τ.2.1 107) (τ.1 113).toNatClampNeg p0)).2.1 108) ((xA τ 107 (upd (τ.2.1 107) (τ.1 113).toNatClampNeg p0)).1 113).toNatClampNeg p1)).1 113).toNatClampNeg p2)) 110 (upd ((xA (xA (xA τ 107 (upd (τ.2.1 107) (τ.1 113).toNatClampNeg p0)) 108 (upd ((xA τ 107 (upd (τ.2.1 107) (τ.1 113).toNatClampNeg p0)).2.1 108) ((xA τ 107 (upd (τ.2.1 107) (τ.1 113).toNatClampNeg p0)).1 113).toNatClampNeg p1)) 109 (upd ((xA (xA τ 107 (upd (τ.2.1 107) (τ.1 113).toNatClampNeg p0)) 108 (upd ((xA τ 107 (upd (τ.2.1 107) (τ.1 113).toNatClampNeg p0)).2.1 108) ((xA τ 107 (upd (τ.2.1 107) (τ.1 113).toNatClampNeg p0)).1 113).toNatClampNeg p1)).2.1 109) ((xA (xA τ 107 (upd (τ.2.1 107) (τ.1 113).toNatClampNeg p0)) 108 (upd ((xA τ 107 (upd (τ.2.1 107) (τ.1 113).toNatClampNeg p0)).2.1 108) ((xA τ 107 (upd (τ.2.1 107) (τ.1 113).toNatClampNeg p0)).1 113).toNatClampNeg p1)).1 113).toNatClampNeg p2)).2.1 110) ((xA (xA (xA τ 107 (upd (τ.2.1 107) (τ.1 113).toNatClampNeg p0)) 108 (upd ((xA τ 107 (upd (τ.2.1 107) (τ.1 113).toNatClampNeg p0)).2.1 108) ((xA τ 107 (upd (τ.2.1 107) (τ.1 113).toNatClampNeg p0)).1 113).toNatClampNeg p1)) 109 (upd ((xA (xA τ 107 (upd (τ.2.1 107) (τ.1 113).toNatClampNeg p0)) 108 (upd ((xA τ 107 (upd (τ.2.1 107) (τ.1 113).toNatClampNeg p0)).2.1 108) ((xA τ 107 (upd (τ.2.1 107) (τ.1 113).toNatClampNeg p0)).1 113).toNatClampNeg p1)).2.1 109) ((xA (xA τ 107 (upd (τ.2.1 107) (τ.1 113).toNatClampNeg p0)) 108 (upd ((xA τ 107 (upd (τ.2.1 107) (τ.1 113).toNatClampNeg p0)).2.1 108) ((xA τ 107 (upd (τ.2.1 107) (τ.1 113).toNatClampNeg p0)).1 113).toNatClampNeg p1)).1 113).toNatClampNeg p2)).1 113).toNatClampNeg p3)) 111 (upd ((xA (xA (xA (xA τ 107 (upd (τ.2.1 107) (τ.1 113).toNatClampNeg p0)) 108 (upd ((xA τ 107 (upd (τ.2.1 107) (τ.1 113).toNatClampNeg p0)).2.1 108) ((xA τ 107 (upd (τ.2.1 107) (τ.1 113).toNatClampNeg p0)).1 113).toNatClampNeg p1)) 109 (upd ((xA (xA τ 107 (upd (τ.2.1 107) (τ.1 113).toNatClampNeg p0)) 108 (upd ((xA τ 107 (upd (τ.2.1 107) (τ.1 113).toNatClampNeg p0)).2.1 108) ((xA τ 107 (upd (τ.2.1 107) (τ.1 113).toNatClampNeg p0)).1 113).toNatClampNeg p1)).2.1 109) ((xA (xA τ 107 (upd (τ.2.1 107) (τ.1 113).toNatClampNeg p0)) 108 (upd ((xA τ 107 (upd (τ.2.1 107) (τ.1 113).toNatClampNeg p0)).2.1 108) ((xA τ 107 (upd (τ.2.1 107) (τ.1 113).toNatClampNeg p0)).1 113).toNatClampNeg p1)).1 113).toNatClampNeg p2)) 110 (upd ((xA (xA (xA τ 107 (upd (τ.2.1 107) (τ.1 113).toNatClampNeg p0)) 108 (upd ((xA τ 107 (upd (τ.2.1 107) (τ.1 113).toNatClampNeg p0)).2.1 108) ((xA τ 107 (upd (τ.2.1 107) (τ.1 113).toNatClampNeg p0)).1 113).toNatClampNeg p1)) 109 (upd ((xA (xA τ 107 (upd (τ.2.1 107) (τ.1 113).toNatClampNeg p0)) 108 (upd ((xA τ 107 (upd (τ.2.1 107) (τ.1 113).toNatClampNeg p0)).2.1 108) ((xA τ 107 (upd (τ.2.1 107) (τ.1 113).toNatClampNeg p0)).1 113).toNatClampNeg p1)).2.1 109) ((xA (xA τ 107 (upd (τ.2.1 107) (τ.1 113).toNatClampNeg p0)) 108 (upd ((xA τ 107 (upd (τ.2.1 107) (τ.1 113).toNatClampNeg p0)).2.1 108) ((xA τ 107 (upd (τ.2.1 107) (τ.1 113).toNatClampNeg p0)).1 113).toNatClampNeg p1)).1 113).toNatClampNeg p2)).2.1 110) ((xA (xA (xA τ 107 (upd (τ.2.1 107) (τ.1 113).toNatClampNeg p0)) 108 (upd ((xA τ 107 (upd (τ.2.1 107) (τ.1 113).toNatClampNeg p0)).2.1 108) ((xA τ 107 (upd (τ.2.1 107) (τ.1 113).toNatClampNeg p0)).1 113).toNatClampNeg p1)) 109 (upd ((xA (xA τ 107 (upd (τ.2.1 107) (τ.1 113).toNatClampNeg p0)) 108 (upd ((xA τ 107 (upd (τ.2.1 107) (τ.1 113).toNatClampNeg p0)).2.1 108) ((xA τ 107 (upd (τ.2.1 107) (τ.1 113).toNatClampNeg p0)).1 113).toNatClampNeg p1)).2.1 109) ((xA (xA τ 107 (upd (τ.2.1 107) (τ.1 113).toNatClampNeg p0)) 108 (upd ((xA τ 107 (upd (τ.2.1 107) (τ.1 113).toNatClampNeg p0)).2.1 108) ((xA τ 107 (upd (τ.2.1 107) (τ.1 113).toNatClampNeg p0)).1 113).toNatClampNeg p1)).1 113).toNatClampNeg p2)).1 113).toNatClampNeg p3)).2.1 111) ((xA (xA (xA (xA τ 107 (upd (τ.2.1 107) (τ.1 113).toNatClampNeg p0)) 108 (upd ((xA τ 107 (upd (τ.2.1 107) (τ.1 113).toNatClampNeg p0)).2.1 108) ((xA τ 107 (upd (τ.2.1 107) (τ.1 113).toNatClampNeg p0)).1 113).toNatClampNeg p1)) 109 (upd ((xA (xA τ 107 (upd (τ.2.1 107) (τ.1 113).toNatClampNeg p0)) 108 (upd ((xA τ 107 (upd (τ.2.1 107) (τ.1 113).toNatClampNeg p0)).2.1 108) ((xA τ 107 (upd (τ.2.1 107) (τ.1 113).toNatClampNeg p0)).1 113).toNatClampNeg p1)).2.1 109) ((xA (xA τ 107 (upd (τ.2.1 107) (τ.1 113).toNatClampNeg p0)) 108 (upd ((xA τ 107 (upd (τ.2.1 107) (τ.1 113).toNatClampNeg p0)).2.1 108) ((xA τ 107 (upd (τ.2.1 107) (τ.1 113).toNatClampNeg p0)).1 113).toNatClampNeg p1)).1 113).toNatClampNeg p2)) 110 (upd ((xA (xA (xA τ 107 (upd (τ.2.1 107) (τ.1 113).toNatClampNeg p0)) 108 (upd ((xA τ 107 (upd (τ.2.1 107) (τ.1 113).toNatClampNeg p0)).2.1 108) ((xA τ 107 (upd (τ.2.1 107) (τ.1 113).toNatClampNeg p0)).1 113).toNatClampNeg p1)) 109 (upd ((xA (xA τ 107 (upd (τ.2.1 107) (τ.1 113).toNatClampNeg p0)) 108 (upd ((xA τ 107 (upd (τ.2.1 107) (τ.1 113).toNatClampNeg p0)).2.1 108) ((xA τ 107 (upd (τ.2.1 107) (τ.1 113).toNatClampNeg p0)).1 113).toNatClampNeg p1)).2.1 109) ((xA (xA τ 107 (upd (τ.2.1 107) (τ.1 113).toNatClampNeg p0)) 108 (upd ((xA τ 107 (upd (τ.2.1 107) (τ.1 113).toNatClampNeg p0)).2.1 108) ((xA τ 107 (upd (τ.2.1 107) (τ.1 113).toNatClampNeg p0)).1 113).toNatClampNeg p1)).1 113).toNatClampNeg p2)).2.1 110) ((xA (xA (xA τ 107 (upd (τ.2.1 107) (τ.1 113).toNatClampNeg p0)) 108 (upd ((xA τ 107 (upd (τ.2.1 107) (τ.1 113).toNatClampNeg p0)).2.1 108) ((xA τ 107 (upd (τ.2.1 107) (τ.1 113).toNatClampNeg p0)).1 113).toNatClampNeg p1)) 109 (upd ((xA (xA τ 107 (upd (τ.2.1 107) (τ.1 113).toNatClampNeg p0)) 108 (upd ((xA τ 107 (upd (τ.2.1 107) (τ.1 113).toNatClampNeg p0)).2.1 108) ((xA τ 107 (upd (τ.2.1 107) (τ.1 113).toNatClampNeg p0)).1 113).toNatClampNeg p1)).2.1 109) ((xA (xA τ 107 (upd (τ.2.1 107) (τ.1 113).toNatClampNeg p0)) 108 (upd ((xA τ 107 (upd (τ.2.1 107) (τ.1 113).toNatClampNeg p0)).2.1 108) ((xA τ 107 (upd (τ.2.1 107) (τ.1 113).toNatClampNeg p0)).1 113).toNatClampNeg p1)).1 113).toNatClampNeg p2)).1 113).toNatClampNeg p3)).1 113).toNatClampNeg p4)).2.1 112) ((xA (xA (xA (xA (xA τ 107 (upd (τ.2.1 107) (τ.1 113).toNatClampNeg p0)) 108 (upd ((xA τ 107 (upd (τ.2.1 107) (τ.1 113).toNatClampNeg p0)).2.1 108) ((xA τ 107 (upd (τ.2.1 107) (τ.1 113).toNatClampNeg p0)).1 113).toNatClampNeg p1)) 109 (upd ((xA (xA τ 107 (upd (τ.2.1 107) (τ.1 113).toNatClampNeg p0)) 108 (upd ((xA τ 107 (upd (τ.2.1 107) (τ.1 113).toNatClampNeg p0)).2.1 108) ((xA τ 107 (upd (τ.2.1 107) (τ.1 113).toNatClampNeg p0)).1 113).toNatClampNeg p1)).2.1 109) ((xA (xA τ 107 (upd (τ.2.1 107) (τ.1 113).toNatClampNeg p0)) 108 (upd ((xA τ 107 (upd (τ.2.1 107) (τ.1 113).toNatClampNeg p0)).2.1 108) ((xA τ 107 (upd (τ.2.1 107) (τ.1 113).toNatClampNeg p0)).1 113).toNatClampNeg p1)).1 113).toNatClampNeg p2)) 110 (upd ((xA (xA (xA τ 107 (upd (τ.2.1 107) (τ.1 113).toNatClampNeg p0)) 108 (upd ((xA τ 107 (upd (τ.2.1 107) (τ.1 113).toNatClampNeg p0)).2.1 108) ((xA τ 107 (upd (τ.2.1 107) (τ.1 113).toNatClampNeg p0)).1 113).toNatClampNeg p1)) 109 (upd ((xA (xA τ 107 (upd (τ.2.1 107) (τ.1 113).toNatClampNeg p0)) 108 (upd ((xA τ 107 (upd (τ.2.1 107) (τ.1 113).toNatClampNeg p0)).2.1 108) ((xA τ 107 (upd (τ.2.1 107) (τ.1 113).toNatClampNeg p0)).1 113).toNatClampNeg p1)).2.1 109) ((xA (xA τ 107 (upd (τ.2.1 107) (τ.1 113).toNatClampNeg p0)) 108 (upd ((xA τ 107 (upd (τ.2.1 107) (τ.1 113).toNatClampNeg p0)).2.1 108) ((xA τ 107 (upd (τ.2.1 107) (τ.1 113).toNatClampNeg p0)).1 113).toNatClampNeg p1)).1 113).toNatClampNeg p2)).2.1 110) ((xA (xA (xA τ 107 (upd (τ.2.1 107) (τ.1 113).toNatClampNeg p0)) 108 (upd ((xA τ 107 (upd (τ.2.1 107) (τ.1 113).toNatClampNeg p0)).2.1 108) ((xA τ 107 (upd (τ.2.1 107) (τ.1 113).toNatClampNeg p0)).1 113).toNatClampNeg p1)) 109 (upd ((xA (xA τ 107 (upd (τ.2.1 107) (τ.1 113).toNatClampNeg p0)) 108 (upd ((xA τ 107 (upd (τ.2.1 107) (τ.1 113).toNatClampNeg p0)).2.1 108) ((xA τ 107 (upd (τ.2.1 107) (τ.1 113).toNatClampNeg p0)).1 113).toNatClampNeg p1)).2.1 109) ((xA (xA τ 107 (upd (τ.2.1 107) (τ.1 113).toNatClampNeg p0)) 108 (upd ((xA τ 107 (upd (τ.2.1 107) (τ.1 113).toNatClampNeg p0)).2.1 108) ((xA τ 107 (upd (τ.2.1 107) (τ.1 113).toNatClampNeg p0)).1 113).toNatClampNeg p1)).1 113).toNatClampNeg p2)).1 113).toNatClampNeg p3)) 111 (upd ((xA (xA (xA (xA τ 107 (upd (τ.2.1 107) (τ.1 113).toNatClampNeg p0)) 108 (upd ((xA τ 107 (upd (τ.2.1 107) (τ.1 113).toNatClampNeg p0)).2.1 108) ((xA τ 107 (upd (τ.2.1 107) (τ.1 113).toNatClampNeg p0)).1 113).toNatClampNeg p1)) 109 (upd ((xA (xA τ 107 (upd (τ.2.1 107) (τ.1 113).toNatClampNeg p0)) 108 (upd ((xA τ 107 (upd (τ.2.1 107) (τ.1 113).toNatClampNeg p0)).2.1 108) ((xA τ 107 (upd (τ.2.1 107) (τ.1 113).toNatClampNeg p0)).1 113).toNatClampNeg p1)).2.1 109) ((xA (xA τ 107 (upd (τ.2.1 107) (τ.1 113).toNatClampNeg p0)) 108 (upd ((xA τ 107 (upd (τ.2.1 107) (τ.1 113).toNatClampNeg p0)).2.1 108) ((xA τ 107 (upd (τ.2.1 107) (τ.1 113).toNatClampNeg p0)).1 113).toNatClampNeg p1)).1 113).toNatClampNeg p2)) 110 (upd ((xA (xA (xA τ 107 (upd (τ.2.1 107) (τ.1 113).toNatClampNeg p0)) 108 (upd ((xA τ 107 (upd (τ.2.1 107) (τ.1 113).toNatClampNeg p0)).2.1 108) ((xA τ 107 (upd (τ.2.1 107) (τ.1 113).toNatClampNeg p0)).1 113).toNatClampNeg p1)) 109 (upd ((xA (xA τ 107 (upd (τ.2.1 107) (τ.1 113).toNatClampNeg p0)) 108 (upd ((xA τ 107 (upd (τ.2.1 107) (τ.1 113).toNatClampNeg p0)).2.1 108) ((xA τ 107 (upd (τ.2.1 107) (τ.1 113).toNatClampNeg p0)).1 113).toNatClampNeg p1)).2.1 109) ((xA (xA τ 107 (upd (τ.2.1 107) (τ.1 113).toNatClampNeg p0)) 108 (upd ((xA τ 107 (upd (τ.2.1 107) (τ.1 113).toNatClampNeg p0)).2.1 108) ((xA τ 107 (upd (τ.2.1 107) (τ.1 113).toNatClampNeg p0)).1 113).toNatClampNeg p1)).1 113).toNatClampNeg p2)).2.1 110) ((xA (xA (xA τ 107 (upd (τ.2.1 107) (τ.1 113).toNatClampNeg p0)) 108 (upd ((xA τ 107 (upd (τ.2.1 107) (τ.1 113).toNatClampNeg p0)).2.1 108) ((xA τ 107 (upd (τ.2.1 107) (τ.1 113).toNatClampNeg p0)).1 113).toNatClampNeg p1)) 109 (upd ((xA (xA τ 107 (upd (τ.2.1 107) (τ.1 113).toNatClampNeg p0)) 108 (upd ((xA τ 107 (upd (τ.2.1 107) (τ.1 113).toNatClampNeg p0)).2.1 108) ((xA τ 107 (upd (τ.2.1 107) (τ.1 113).toNatClampNeg p0)).1 113).toNatClampNeg p1)).2.1 109) ((xA (xA τ 107 (upd (τ.2.1 107) (τ.1 113).toNatClampNeg p0)) 108 (upd ((xA τ 107 (upd (τ.2.1 107) (τ.1 113).toNatClampNeg p0)).2.1 108) ((xA τ 107 (upd (τ.2.1 107) (τ.1 113).toNatClampNeg p0)).1 113).toNatClampNeg p1)).1 113).toNatClampNeg p2)).1 113).toNatClampNeg p3)).2.1 111) ((xA (xA (xA (xA τ 107 (upd (τ.2.1 107) (τ.1 113).toNatClampNeg p0)) 108 (upd ((xA τ 107 (upd (τ.2.1 107) (τ.1 113).toNatClampNeg p0)).2.1 108) ((xA τ 107 (upd (τ.2.1 107) (τ.1 113).toNatClampNeg p0)).1 113).toNatClampNeg p1)) 109 (upd ((xA (xA τ 107 (upd (τ.2.1 107) (τ.1 113).toNatClampNeg p0)) 108 (upd ((xA τ 107 (upd (τ.2.1 107) (τ.1 113).toNatClampNeg p0)).2.1 108) ((xA τ 107 (upd (τ.2.1 107) (τ.1 113).toNatClampNeg p0)).1 113).toNatClampNeg p1)).2.1 109) ((xA (xA τ 107 (upd (τ.2.1 107) (τ.1 113).toNatClampNeg p0)) 108 (upd ((xA τ 107 (upd (τ.2.1 107) (τ.1 113).toNatClampNeg p0)).2.1 108) ((xA τ 107 (upd (τ.2.1 107) (τ.1 113).toNatClampNeg p0)).1 113).toNatClampNeg p1)).1 113).toNatClampNeg p2)) 110 (upd ((xA (xA (xA τ 107 (upd (τ.2.1 107) (τ.1 113).toNatClampNeg p0)) 108 (upd ((xA τ 107 (upd (τ.2.1 107) (τ.1 113).toNatClampNeg p0)).2.1 108) ((xA τ 107 (upd (τ.2.1 107) (τ.1 113).toNatClampNeg p0)).1 113).toNatClampNeg p1)) 109 (upd ((xA (xA τ 107 (upd (τ.2.1 107) (τ.1 113).toNatClampNeg p0)) 108 (upd ((xA τ 107 (upd (τ.2.1 107) (τ.1 113).toNatClampNeg p0)).2.1 108) ((xA τ 107 (upd (τ.2.1 107) (τ.1 113).toNatClampNeg p0)).1 113).toNatClampNeg p1)).2.1 109) ((xA (xA τ 107 (upd (τ.2.1 107) (τ.1 113).toNatClampNeg p0)) 108 (upd ((xA τ 107 (upd (τ.2.1 107) (τ.1 113).toNatClampNeg p0)).2.1 108) ((xA τ 107 (upd (τ.2.1 107) (τ.1 113).toNatClampNeg p0)).1 113).toNatClampNeg p1)).1 113).toNatClampNeg p2)).2.1 110) ((xA (xA (xA τ 107 (upd (τ.2.1 107) (τ.1 113).toNatClampNeg p0)) 108 (upd ((xA τ 107 (upd (τ.2.1 107) (τ.1 113).toNatClampNeg p0)).2.1 108) ((xA τ 107 (upd (τ.2.1 107) (τ.1 113).toNatClampNeg p0)).1 113).toNatClampNeg p1)) 109 (upd ((xA (xA τ 107 (upd (τ.2.1 107) (τ.1 113).toNatClampNeg p0)) 108 (upd ((xA τ 107 (upd (τ.2.1 107) (τ.1 113).toNatClampNeg p0)).2.1 108) ((xA τ 107 (upd (τ.2.1 107) (τ.1 113).toNatClampNeg p0)).1 113).toNatClampNeg p1)).2.1 109) ((xA (xA τ 107 (upd (τ.2.1 107) (τ.1 113).toNatClampNeg p0)) 108 (upd ((xA τ 107 (upd (τ.2.1 107) (τ.1 113).toNatClampNeg p0)).2.1 108) ((xA τ 107 (upd (τ.2.1 107) (τ.1 113).toNatClampNeg p0)).1 113).toNatClampNeg p1)).1 113).toNatClampNeg p2)).1 113).toNatClampNeg p3)).1 113).toNatClampNeg p4)).1 113).toNatClampNeg 200)) 106 1) p0 p1
  · refine at_bipush hC bi_m4 dX1_addEntry_10 ?_
    exact at_iret (F := eqA ad) (ra := rI) hC dX1_addEntry_12 rfl (Nat.le_refl 0) (Nat.le_refl 0) rfl
end G
