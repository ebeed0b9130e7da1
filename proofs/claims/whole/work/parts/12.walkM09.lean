section G
variable {z : ZZ} {x : XX} {ad : Nat → Nat} {τ : XS}
theorem dX11_stepped_0 : decode cX11_stepped 0 = .ok (.iload_n 2, 1) := by decide +kernel
theorem dX11_stepped_1 : decode cX11_stepped 1 = .ok (.aload_n 0, 1) := by decide +kernel
theorem dX11_stepped_2 : decode cX11_stepped 2 = .ok (.getfield 120, 3) := by decide +kernel
theorem dX11_stepped_5 : decode cX11_stepped 5 = .ok (.iload_n 1, 1) := by decide +kernel
theorem dX11_stepped_6 : decode cX11_stepped 6 = .ok (.iaload, 1) := by decide +kernel
theorem dX11_stepped_7 : decode cX11_stepped 7 = .ok (.imul, 1) := by decide +kernel
theorem dX11_stepped_8 : decode cX11_stepped 8 = .ok (.bipush 100, 2) := by decide +kernel
theorem dX11_stepped_10 : decode cX11_stepped 10 = .ok (.idiv, 1) := by decide +kernel
theorem dX11_stepped_11 : decode cX11_stepped 11 = .ok (.ireturn, 1) := by decide +kernel
set_option maxRecDepth 100000 in
theorem c_M_stepped (σ : MS) (p0 : Int32) (p1 : Int32) : Ct z (wM z τ) rI eqA yX11_stepped cX11_stepped 3 (some .int) 1 0 0 [.ref 0, .int p0, .int p1] σ ((M_stepped σ p0 p1).map fun r => (r, σ)) := by
  refine Ct.of (by decide) (Nat.le_of_ble_eq_true rfl) (fun ad x hC hR _ => ?_)
  show AT z x 3 (wM z τ) rI (eqA ad) 0 0 0 0 ad 0 [(0, .ref 0), (1, .int p0), (2, .int p1)] [] σ ((M_stepped σ p0 p1).map fun r => (r, σ))
  unfold M_stepped
  refine at_iload_n (j := 2) hC rfl rfl dX11_stepped_0 ?_
  refine at_aload_n (j := 0) hC rfl rfl dX11_stepped_1 ?_
  refine gf_X11_120 hC dX11_stepped_2 ?_
  refine at_iload_n (j := 1) hC rfl rfl dX11_stepped_5 ?_
  refine ap_iald hC 35 dX11_stepped_6 cl_35 (fun v1 => ?_)
  refine at_imul hC dX11_stepped_7 ?_
  refine at_bipush hC bi_100 dX11_stepped_8 ?_
  refine at_idiv hC (by decide) dX11_stepped_10 ?_
  exact at_iret (F := eqA ad) (ra := rI) hC dX11_stepped_11 rfl (Nat.le_refl 0) (Nat.le_refl 0) rfl
theorem dX11_isAsked_0 : decode cX11_isAsked 0 = .ok (.iload_n 1, 1) := by decide +kernel
theorem dX11_isAsked_1 : decode cX11_isAsked 1 = .ok (.iconst 0, 1) := by decide +kernel
theorem dX11_isAsked_2 : decode cX11_isAsked 2 = .ok (.bipush 8, 2) := by decide +kernel
theorem dX11_isAsked_4 : decode cX11_isAsked 4 = .ok (.invokestatic 129, 3) := by decide +kernel
theorem dX11_isAsked_7 : decode cX11_isAsked 7 = .ok (.ifCond .eq 28, 3) := by decide +kernel
theorem dX11_isAsked_10 : decode cX11_isAsked 10 = .ok (.iload_n 2, 1) := by decide +kernel
theorem dX11_isAsked_11 : decode cX11_isAsked 11 = .ok (.iconst (-1), 1) := by decide +kernel
theorem dX11_isAsked_12 : decode cX11_isAsked 12 = .ok (.if_icmp .eq 11, 3) := by decide +kernel
theorem dX11_isAsked_15 : decode cX11_isAsked 15 = .ok (.aload_n 0, 1) := by decide +kernel
theorem dX11_isAsked_16 : decode cX11_isAsked 16 = .ok (.iload_n 2, 1) := by decide +kernel
theorem dX11_isAsked_17 : decode cX11_isAsked 17 = .ok (.invokevirtual 174, 3) := by decide +kernel
theorem dX11_isAsked_20 : decode cX11_isAsked 20 = .ok (.ifCond .eq 15, 3) := by decide +kernel
theorem dX11_isAsked_23 : decode cX11_isAsked 23 = .ok (.aload_n 0, 1) := by decide +kernel
theorem dX11_isAsked_24 : decode cX11_isAsked 24 = .ok (.iload_n 3, 1) := by decide +kernel
theorem dX11_isAsked_25 : decode cX11_isAsked 25 = .ok (.invokevirtual 212, 3) := by decide +kernel
theorem dX11_isAsked_28 : decode cX11_isAsked 28 = .ok (.ifCond .eq 7, 3) := by decide +kernel
theorem dX11_isAsked_31 : decode cX11_isAsked 31 = .ok (.iconst 1, 1) := by decide +kernel
theorem dX11_isAsked_32 : decode cX11_isAsked 32 = .ok (.goto 4, 3) := by decide +kernel
theorem dX11_isAsked_35 : decode cX11_isAsked 35 = .ok (.iconst 0, 1) := by decide +kernel
theorem dX11_isAsked_36 : decode cX11_isAsked 36 = .ok (.ireturn, 1) := by decide +kernel
set_option maxRecDepth 100000 in
theorem t_M_isAsked_J23 (hC : CX z ad x cX11_isAsked RX11 4 (some .boolean)) (hR : x.2.2.1 = rmk 4 0 0) (σ : MS) (a3 : Int32) : AT z x 4 (wM z τ) rI (eqA ad) 0 0 0 0 ad 23 [(0, .ref 0), (3, .int a3)] [] σ ((M_isAsked_J23 σ a3).map fun r => (r, σ)) := by
  unfold M_isAsked_J23
  refine at_aload_n (j := 0) hC rfl rfl dX11_isAsked_23 ?_
  refine at_iload_n (j := 1) hC rfl rfl dX11_isAsked_24 ?_
  refine ap_callVI hC hR lk_X11_212 (c_M_isBy σ a3) dX11_isAsked_25 recX11 rfl rfl ⟨by decide, by decide⟩ (Nat.le_of_ble_eq_true rfl) ⟨Nat.le_refl 0, Nat.le_refl 0⟩ (fun r2 _ => ?_)
  refine ap_if_eq (tgt := 35) hC dX11_isAsked_28 rfl (fun _ => ?_) (fun _ => ?_)
  · refine at_iconst hC ic_0 dX11_isAsked_35 ?_
    exact at_zret (F := eqA ad) (ra := rI) hC nb0 dX11_isAsked_36 rfl (Nat.le_refl 0) (Nat.le_refl 0) rfl
  · refine at_iconst hC ic_1 dX11_isAsked_31 ?_
    refine at_goto (tgt := 36) hC dX11_isAsked_32 rfl ?_
    exact at_zret (F := eqA ad) (ra := rI) hC nb1 dX11_isAsked_36 rfl (Nat.le_refl 0) (Nat.le_refl 0) rfl
set_option maxRecDepth 100000 in
theorem c_M_isAsked (σ : MS) (p0 : Int32) (p1 : Int32) (p2 : Int32) : Ct z (wM z τ) rI eqA yX11_isAsked cX11_isAsked 4 (some .boolean) 4 0 0 [.ref 0, .int p0, .int p1, .int p2] σ ((M_isAsked σ p0 p1 p2).map fun r => (r, σ)) := by
  refine Ct.of (by decide) (Nat.le_of_ble_eq_true rfl) (fun ad x hC hR _ => ?_)
  show AT z x 4 (wM z τ) rI (eqA ad) 0 0 0 0 ad 0 [(0, .ref 0), (1, .int p0), (2, .int p1), (3, .int p2)] [] σ ((M_isAsked σ p0 p1 p2).map fun r => (r, σ))
  unfold M_isAsked
  refine at_iload_n (j := 1) hC rfl rfl dX11_isAsked_0 ?_
  refine at_iconst hC ic_0 dX11_isAsked_1 ?_
  refine at_bipush hC bi_8 dX11_isAsked_2 ?_
  refine ap_callSI hC hR lk_X11_129 (c_M_in σ p0 0 8) dX11_isAsked_4 rfl rfl ⟨by decide, by decide⟩ (Nat.le_of_ble_eq_true rfl) ⟨Nat.le_refl 0, Nat.le_refl 0⟩ (fun r1 _ => ?_)
  refine ap_if_eq (tgt := 35) hC dX11_isAsked_7 rfl (fun _ => ?_) (fun _ => ?_)
  · refine at_iconst hC ic_0 dX11_isAsked_35 ?_
    exact at_zret (F := eqA ad) (ra := rI) hC nb0 dX11_isAsked_36 rfl (Nat.le_refl 0) (Nat.le_refl 0) rfl
  · refine at_iload_n (j := 2) hC rfl rfl dX11_isAsked_10 ?_
    refine at_iconst hC ic_m1 dX11_isAsked_11 ?_
    refine ap_icmp_eq (tgt := 23) hC dX11_isAsked_12 rfl (fun _ => ?_) (fun _ => ?_)
    · refine at_drop (lv' := [(0, .ref 0), (3, .int p2)]) [0, 3] rfl ?_
      exact t_M_isAsked_J23 hC hR σ p2
    · refine at_aload_n (j := 0) hC rfl rfl dX11_isAsked_15 ?_
      refine at_iload_n (j := 2) hC rfl rfl dX11_isAsked_16 ?_
      refine ap_callVI hC hR lk_X11_174 (c_M_isMan σ p1) dX11_isAsked_17 recX11 rfl rfl ⟨by decide, by decide⟩ (Nat.le_of_ble_eq_true rfl) ⟨Nat.le_refl 0, Nat.le_refl 0⟩ (fun r3 _ => ?_)
      refine ap_if_eq (tgt := 35) hC dX11_isAsked_20 rfl (fun _ => ?_) (fun _ => ?_)
      · refine at_iconst hC ic_0 dX11_isAsked_35 ?_
        exact at_zret (F := eqA ad) (ra := rI) hC nb0 dX11_isAsked_36 rfl (Nat.le_refl 0) (Nat.le_refl 0) rfl
      · refine at_drop (lv' := [(0, .ref 0), (3, .int p2)]) [0, 3] rfl ?_
        exact t_M_isAsked_J23 hC hR σ p2
theorem dX11_rule_0 : decode cX11_rule 0 = .ok (.aload_n 0, 1) := by decide +kernel
theorem dX11_rule_1 : decode cX11_rule 1 = .ok (.iload_n 1, 1) := by decide +kernel
theorem dX11_rule_2 : decode cX11_rule 2 = .ok (.iload_n 2, 1) := by decide +kernel
theorem dX11_rule_3 : decode cX11_rule 3 = .ok (.iload 4, 2) := by decide +kernel
theorem dX11_rule_5 : decode cX11_rule 5 = .ok (.invokevirtual 350, 3) := by decide +kernel
theorem dX11_rule_8 : decode cX11_rule 8 = .ok (.ifCond .ne 5, 3) := by decide +kernel
theorem dX11_rule_11 : decode cX11_rule 11 = .ok (.iconst (-1), 1) := by decide +kernel
theorem dX11_rule_12 : decode cX11_rule 12 = .ok (.ireturn, 1) := by decide +kernel
theorem dX11_rule_13 : decode cX11_rule 13 = .ok (.iload_n 3, 1) := by decide +kernel
theorem dX11_rule_14 : decode cX11_rule 14 = .ok (.invokestatic 177, 3) := by decide +kernel
theorem dX11_rule_17 : decode cX11_rule 17 = .ok (.ifCond .ne 6, 3) := by decide +kernel
theorem dX11_rule_20 : decode cX11_rule 20 = .ok (.bipush (-2), 2) := by decide +kernel
theorem dX11_rule_22 : decode cX11_rule 22 = .ok (.ireturn, 1) := by decide +kernel
theorem dX11_rule_23 : decode cX11_rule 23 = .ok (.aload_n 0, 1) := by decide +kernel
theorem dX11_rule_24 : decode cX11_rule 24 = .ok (.iload 4, 2) := by decide +kernel
theorem dX11_rule_26 : decode cX11_rule 26 = .ok (.invokevirtual 143, 3) := by decide +kernel
theorem dX11_rule_29 : decode cX11_rule 29 = .ok (.aload_n 0, 1) := by decide +kernel
theorem dX11_rule_30 : decode cX11_rule 30 = .ok (.iload_n 1, 1) := by decide +kernel
theorem dX11_rule_31 : decode cX11_rule 31 = .ok (.iload_n 2, 1) := by decide +kernel
theorem dX11_rule_32 : decode cX11_rule 32 = .ok (.iload_n 3, 1) := by decide +kernel
theorem dX11_rule_33 : decode cX11_rule 33 = .ok (.iload_n 3, 1) := by decide +kernel
theorem dX11_rule_34 : decode cX11_rule 34 = .ok (.invokevirtual 193, 3) := by decide +kernel
theorem dX11_rule_37 : decode cX11_rule 37 = .ok (.ireturn, 1) := by decide +kernel
set_option maxRecDepth 100000 in
theorem c_M_rule (σ : MS) (p0 : Int32) (p1 : Int32) (p2 : Int32) (p3 : Int32) : Ct z (wM z τ) rI eqA yX11_rule cX11_rule 5 (some .int) 618 0 0 [.ref 0, .int p0, .int p1, .int p2, .int p3] σ (M_rule σ p0 p1 p2 p3) := by
  refine Ct.of (by decide) (Nat.le_of_ble_eq_true rfl) (fun ad x hC hR _ => ?_)
  show AT z x 5 (wM z τ) rI (eqA ad) 0 0 0 0 ad 0 [(0, .ref 0), (1, .int p0), (2, .int p1), (3, .int p2), (4, .int p3)] [] σ (M_rule σ p0 p1 p2 p3)
  unfold M_rule
  refine at_aload_n (j := 0) hC rfl rfl dX11_rule_0 ?_
  refine at_iload_n (j := 1) hC rfl rfl dX11_rule_1 ?_
  refine at_iload_n (j := 2) hC rfl rfl dX11_rule_2 ?_
  refine at_iload (j := 4) hC rfl dX11_rule_3 ?_
  refine at_callVpI hC hR lk_X11_350 (c_M_isAsked σ p0 p1 p3) dX11_rule_5 recX11 rfl rfl ⟨by decide, by decide⟩ (Nat.le_of_ble_eq_true rfl) ⟨Nat.le_refl 0, Nat.le_refl 0⟩ (fun r1 _ => ?_)
  refine at_if_ne (tgt := 13) hC dX11_rule_8 rfl (fun _ => ?_) (fun _ => ?_)
  · refine at_iload_n (j := 3) hC rfl rfl dX11_rule_13 ?_
    refine at_callSpI hC hR lk_X11_177 (c_M_isDay σ p2) dX11_rule_14 rfl rfl ⟨by decide, by decide⟩ (Nat.le_of_ble_eq_true rfl) ⟨Nat.le_refl 0, Nat.le_refl 0⟩ (fun r2 _ => ?_)
    refine at_if_ne (tgt := 23) hC dX11_rule_17 rfl (fun _ => ?_) (fun _ => ?_)
    · refine at_aload_n (j := 0) hC rfl rfl dX11_rule_23 ?_
      refine at_iload (j := 4) hC rfl dX11_rule_24 ?_
      refine at_callVU hC hR lk_X11_143 (c_M_looks σ p3) dX11_rule_26 recX11 rfl rfl ⟨by decide, by decide⟩ (Nat.le_of_ble_eq_true rfl) ⟨Nat.le_refl 0, Nat.le_refl 0⟩ (fun r3 r3s _ => ?_)
      refine at_aload_n (j := 0) hC rfl rfl dX11_rule_29 ?_
      refine at_iload_n (j := 1) hC rfl rfl dX11_rule_30 ?_
      refine at_iload_n (j := 2) hC rfl rfl dX11_rule_31 ?_
      refine at_iload_n (j := 3) hC rfl rfl dX11_rule_32 ?_
      refine at_iload_n (j := 3) hC rfl rfl dX11_rule_33 ?_
      refine at_callVI hC hR lk_X11_193 (c_M_ruled r3s p0 p1 p2 p2) dX11_rule_34 recX11 rfl rfl ⟨by decide, by decide⟩ (Nat.le_of_ble_eq_true rfl) ⟨Nat.le_refl 0, Nat.le_refl 0⟩ (fun r4 r4s _ => ?_)
      exact at_iret (F := eqA ad) (ra := rI) hC dX11_rule_37 rfl (Nat.le_refl 0) (Nat.le_refl 0) rfl
    · refine at_bipush hC bi_m2 dX11_rule_20 ?_
      exact at_iret (F := eqA ad) (ra := rI) hC dX11_rule_22 rfl (Nat.le_refl 0) (Nat.le_refl 0) rfl
  · refine at_iconst hC ic_m1 dX11_rule_11 ?_
    exact at_iret (F := eqA ad) (ra := rI) hC dX11_rule_12 rfl (Nat.le_refl 0) (Nat.le_refl 0) rfl
theorem dX11_placed_0 : decode cX11_placed 0 = .ok (.iload_n 0, 1) := by decide +kernel
theorem dX11_placed_1 : decode cX11_placed 1 = .ok (.iconst (-1), 1) := by decide +kernel
theorem dX11_placed_2 : decode cX11_placed 2 = .ok (.if_icmp .ne 8, 3) := by decide +kernel
theorem dX11_placed_5 : decode cX11_placed 5 = .ok (.bipush (-5), 2) := by decide +kernel
theorem dX11_placed_7 : decode cX11_placed 7 = .ok (.goto 15, 3) := by decide +kernel
theorem dX11_placed_10 : decode cX11_placed 10 = .ok (.bipush 100, 2) := by decide +kernel
theorem dX11_placed_12 : decode cX11_placed 12 = .ok (.iload_n 0, 1) := by decide +kernel
theorem dX11_placed_13 : decode cX11_placed 13 = .ok (.bipush 8, 2) := by decide +kernel
theorem dX11_placed_15 : decode cX11_placed 15 = .ok (.idiv, 1) := by decide +kernel
theorem dX11_placed_16 : decode cX11_placed 16 = .ok (.imul, 1) := by decide +kernel
theorem dX11_placed_17 : decode cX11_placed 17 = .ok (.iload_n 0, 1) := by decide +kernel
theorem dX11_placed_18 : decode cX11_placed 18 = .ok (.bipush 8, 2) := by decide +kernel
theorem dX11_placed_20 : decode cX11_placed 20 = .ok (.irem, 1) := by decide +kernel
theorem dX11_placed_21 : decode cX11_placed 21 = .ok (.iadd, 1) := by decide +kernel
theorem dX11_placed_22 : decode cX11_placed 22 = .ok (.ireturn, 1) := by decide +kernel
set_option maxRecDepth 100000 in
theorem c_M_placed (σ : MS) (p0 : Int32) : Ct z (wM z τ) rI eqA yX11_placed cX11_placed 1 (some .int) 1 0 0 [.int p0] σ ((M_placed σ p0).map fun r => (r, σ)) := by
  refine Ct.of (by decide) (Nat.le_of_ble_eq_true rfl) (fun ad x hC hR _ => ?_)
  show AT z x 1 (wM z τ) rI (eqA ad) 0 0 0 0 ad 0 [(0, .int p0)] [] σ ((M_placed σ p0).map fun r => (r, σ))
  unfold M_placed
  refine at_iload_n (j := 0) hC rfl rfl dX11_placed_0 ?_
  refine at_iconst hC ic_m1 dX11_placed_1 ?_
  refine ap_icmp_ne (tgt := 10) hC dX11_placed_2 rfl (fun _ => ?_) (fun _ => ?_)
  · refine at_bipush hC bi_100 dX11_placed_10 ?_
    refine at_iload_n (j := 0) hC rfl rfl dX11_placed_12 ?_
    refine at_bipush hC bi_8 dX11_placed_13 ?_
    refine at_idiv hC (by decide) dX11_placed_15 ?_
    refine at_imul hC dX11_placed_16 ?_
    refine at_iload_n (j := 0) hC rfl rfl dX11_placed_17 ?_
    refine at_bipush hC bi_8 dX11_placed_18 ?_
    refine at_irem hC (by decide) dX11_placed_20 ?_
    refine at_iadd hC dX11_placed_21 ?_
    exact at_iret (F := eqA ad) (ra := rI) hC dX11_placed_22 rfl (Nat.le_refl 0) (Nat.le_refl 0) rfl
  · refine at_bipush hC bi_m5 dX11_placed_5 ?_
    refine at_goto (tgt := 22) hC dX11_placed_7 rfl ?_
    exact at_iret (F := eqA ad) (ra := rI) hC dX11_placed_22 rfl (Nat.le_refl 0) (Nat.le_refl 0) rfl
theorem dX11_why_0 : decode cX11_why 0 = .ok (.aload_n 0, 1) := by decide +kernel
theorem dX11_why_1 : decode cX11_why 1 = .ok (.iload_n 1, 1) := by decide +kernel
theorem dX11_why_2 : decode cX11_why 2 = .ok (.iload_n 2, 1) := by decide +kernel
theorem dX11_why_3 : decode cX11_why 3 = .ok (.iload 4, 2) := by decide +kernel
theorem dX11_why_5 : decode cX11_why 5 = .ok (.invokevirtual 350, 3) := by decide +kernel
theorem dX11_why_8 : decode cX11_why 8 = .ok (.ifCond .ne 5, 3) := by decide +kernel
theorem dX11_why_11 : decode cX11_why 11 = .ok (.iconst (-1), 1) := by decide +kernel
theorem dX11_why_12 : decode cX11_why 12 = .ok (.ireturn, 1) := by decide +kernel
theorem dX11_why_13 : decode cX11_why 13 = .ok (.iload_n 3, 1) := by decide +kernel
theorem dX11_why_14 : decode cX11_why 14 = .ok (.invokestatic 177, 3) := by decide +kernel
theorem dX11_why_17 : decode cX11_why 17 = .ok (.ifCond .ne 6, 3) := by decide +kernel
theorem dX11_why_20 : decode cX11_why 20 = .ok (.bipush (-2), 2) := by decide +kernel
theorem dX11_why_22 : decode cX11_why 22 = .ok (.ireturn, 1) := by decide +kernel
theorem dX11_why_23 : decode cX11_why 23 = .ok (.aload_n 0, 1) := by decide +kernel
theorem dX11_why_24 : decode cX11_why 24 = .ok (.iload 4, 2) := by decide +kernel
theorem dX11_why_26 : decode cX11_why 26 = .ok (.invokevirtual 143, 3) := by decide +kernel
theorem dX11_why_29 : decode cX11_why 29 = .ok (.aload_n 0, 1) := by decide +kernel
theorem dX11_why_30 : decode cX11_why 30 = .ok (.iload_n 2, 1) := by decide +kernel
theorem dX11_why_31 : decode cX11_why 31 = .ok (.iload_n 3, 1) := by decide +kernel
theorem dX11_why_32 : decode cX11_why 32 = .ok (.invokevirtual 341, 3) := by decide +kernel
theorem dX11_why_35 : decode cX11_why 35 = .ok (.aload_n 0, 1) := by decide +kernel
theorem dX11_why_36 : decode cX11_why 36 = .ok (.iload_n 1, 1) := by decide +kernel
theorem dX11_why_37 : decode cX11_why 37 = .ok (.iload_n 3, 1) := by decide +kernel
theorem dX11_why_38 : decode cX11_why 38 = .ok (.invokevirtual 344, 3) := by decide +kernel
theorem dX11_why_41 : decode cX11_why 41 = .ok (.invokestatic 353, 3) := by decide +kernel
theorem dX11_why_44 : decode cX11_why 44 = .ok (.ireturn, 1) := by decide +kernel
set_option maxRecDepth 100000 in
theorem c_M_why (σ : MS) (p0 : Int32) (p1 : Int32) (p2 : Int32) (p3 : Int32) : Ct z (wM z τ) rI eqA yX11_why cX11_why 5 (some .int) 617 0 0 [.ref 0, .int p0, .int p1, .int p2, .int p3] σ (M_why σ p0 p1 p2 p3) := by
  refine Ct.of (by decide) (Nat.le_of_ble_eq_true rfl) (fun ad x hC hR _ => ?_)
  show AT z x 5 (wM z τ) rI (eqA ad) 0 0 0 0 ad 0 [(0, .ref 0), (1, .int p0), (2, .int p1), (3, .int p2), (4, .int p3)] [] σ (M_why σ p0 p1 p2 p3)
  unfold M_why
  refine at_aload_n (j := 0) hC rfl rfl dX11_why_0 ?_
  refine at_iload_n (j := 1) hC rfl rfl dX11_why_1 ?_
  refine at_iload_n (j := 2) hC rfl rfl dX11_why_2 ?_
  refine at_iload (j := 4) hC rfl dX11_why_3 ?_
  refine at_callVpI hC hR lk_X11_350 (c_M_isAsked σ p0 p1 p3) dX11_why_5 recX11 rfl rfl ⟨by decide, by decide⟩ (Nat.le_of_ble_eq_true rfl) ⟨Nat.le_refl 0, Nat.le_refl 0⟩ (fun r1 _ => ?_)
  refine at_if_ne (tgt := 13) hC dX11_why_8 rfl (fun _ => ?_) (fun _ => ?_)
  · refine at_iload_n (j := 3) hC rfl rfl dX11_why_13 ?_
    refine at_callSpI hC hR lk_X11_177 (c_M_isDay σ p2) dX11_why_14 rfl rfl ⟨by decide, by decide⟩ (Nat.le_of_ble_eq_true rfl) ⟨Nat.le_refl 0, Nat.le_refl 0⟩ (fun r2 _ => ?_)
    refine at_if_ne (tgt := 23) hC dX11_why_17 rfl (fun _ => ?_) (fun _ => ?_)
    · refine at_aload_n (j := 0) hC rfl rfl dX11_why_23 ?_
      refine at_iload (j := 4) hC rfl dX11_why_24 ?_
      refine at_callVU hC hR lk_X11_143 (c_M_looks σ p3) dX11_why_26 recX11 rfl rfl ⟨by decide, by decide⟩ (Nat.le_of_ble_eq_true rfl) ⟨Nat.le_refl 0, Nat.le_refl 0⟩ (fun r3 r3s _ => ?_)
      refine at_aload_n (j := 0) hC rfl rfl dX11_why_29 ?_
      refine at_iload_n (j := 2) hC rfl rfl dX11_why_30 ?_
      refine at_iload_n (j := 3) hC rfl rfl dX11_why_31 ?_
      refine at_callVU hC hR lk_X11_341 (c_M_namesOf r3s p1 p2) dX11_why_32 recX11 rfl rfl ⟨by decide, by decide⟩ (Nat.le_of_ble_eq_true rfl) ⟨Nat.le_refl 0, Nat.le_refl 0⟩ (fun r4 r4s _ => ?_)
      refine at_aload_n (j := 0) hC rfl rfl dX11_why_35 ?_
      refine at_iload_n (j := 1) hC rfl rfl dX11_why_36 ?_
      refine at_iload_n (j := 3) hC rfl rfl dX11_why_37 ?_
      refine at_callVI hC hR lk_X11_344 (c_M_governs r4s p0 p2) dX11_why_38 recX11 rfl rfl ⟨by decide, by decide⟩ (Nat.le_of_ble_eq_true rfl) ⟨Nat.le_refl 0, Nat.le_refl 0⟩ (fun r5 r5s _ => ?_)
      refine at_callSpI hC hR lk_X11_353 (c_M_placed r5s r5) dX11_why_41 rfl rfl ⟨by decide, by decide⟩ (Nat.le_of_ble_eq_true rfl) ⟨Nat.le_refl 0, Nat.le_refl 0⟩ (fun r6 _ => ?_)
      exact at_iret (F := eqA ad) (ra := rI) hC dX11_why_44 rfl (Nat.le_refl 0) (Nat.le_refl 0) rfl
    · refine at_bipush hC bi_m2 dX11_why_20 ?_
      exact at_iret (F := eqA ad) (ra := rI) hC dX11_why_22 rfl (Nat.le_refl 0) (Nat.le_refl 0) rfl
  · refine at_iconst hC ic_m1 dX11_why_11 ?_
    exact at_iret (F := eqA ad) (ra := rI) hC dX11_why_12 rfl (Nat.le_refl 0) (Nat.le_refl 0) rfl
theorem dX11_quarrel_0 : decode cX11_quarrel 0 = .ok (.aload_n 0, 1) := by decide +kernel
theorem dX11_quarrel_1 : decode cX11_quarrel 1 = .ok (.iload_n 1, 1) := by decide +kernel
theorem dX11_quarrel_2 : decode cX11_quarrel 2 = .ok (.iload_n 2, 1) := by decide +kernel
theorem dX11_quarrel_3 : decode cX11_quarrel 3 = .ok (.iload 4, 2) := by decide +kernel
theorem dX11_quarrel_5 : decode cX11_quarrel 5 = .ok (.invokevirtual 350, 3) := by decide +kernel
theorem dX11_quarrel_8 : decode cX11_quarrel 8 = .ok (.ifCond .ne 5, 3) := by decide +kernel
theorem dX11_quarrel_11 : decode cX11_quarrel 11 = .ok (.iconst (-1), 1) := by decide +kernel
theorem dX11_quarrel_12 : decode cX11_quarrel 12 = .ok (.ireturn, 1) := by decide +kernel
theorem dX11_quarrel_13 : decode cX11_quarrel 13 = .ok (.iload_n 3, 1) := by decide +kernel
theorem dX11_quarrel_14 : decode cX11_quarrel 14 = .ok (.invokestatic 177, 3) := by decide +kernel
theorem dX11_quarrel_17 : decode cX11_quarrel 17 = .ok (.ifCond .ne 6, 3) := by decide +kernel
theorem dX11_quarrel_20 : decode cX11_quarrel 20 = .ok (.bipush (-2), 2) := by decide +kernel
theorem dX11_quarrel_22 : decode cX11_quarrel 22 = .ok (.ireturn, 1) := by decide +kernel
theorem dX11_quarrel_23 : decode cX11_quarrel 23 = .ok (.aload_n 0, 1) := by decide +kernel
theorem dX11_quarrel_24 : decode cX11_quarrel 24 = .ok (.iload 4, 2) := by decide +kernel
theorem dX11_quarrel_26 : decode cX11_quarrel 26 = .ok (.invokevirtual 143, 3) := by decide +kernel
theorem dX11_quarrel_29 : decode cX11_quarrel 29 = .ok (.aload_n 0, 1) := by decide +kernel
theorem dX11_quarrel_30 : decode cX11_quarrel 30 = .ok (.iload_n 2, 1) := by decide +kernel
theorem dX11_quarrel_31 : decode cX11_quarrel 31 = .ok (.iload_n 3, 1) := by decide +kernel
theorem dX11_quarrel_32 : decode cX11_quarrel 32 = .ok (.invokevirtual 341, 3) := by decide +kernel
theorem dX11_quarrel_35 : decode cX11_quarrel 35 = .ok (.aload_n 0, 1) := by decide +kernel
theorem dX11_quarrel_36 : decode cX11_quarrel 36 = .ok (.iload_n 1, 1) := by decide +kernel
theorem dX11_quarrel_37 : decode cX11_quarrel 37 = .ok (.iload_n 3, 1) := by decide +kernel
theorem dX11_quarrel_38 : decode cX11_quarrel 38 = .ok (.invokevirtual 344, 3) := by decide +kernel
theorem dX11_quarrel_41 : decode cX11_quarrel 41 = .ok (.istore 5, 2) := by decide +kernel
theorem dX11_quarrel_43 : decode cX11_quarrel 43 = .ok (.iload 5, 2) := by decide +kernel
theorem dX11_quarrel_45 : decode cX11_quarrel 45 = .ok (.iconst (-1), 1) := by decide +kernel
theorem dX11_quarrel_46 : decode cX11_quarrel 46 = .ok (.if_icmp .ne 6, 3) := by decide +kernel
theorem dX11_quarrel_49 : decode cX11_quarrel 49 = .ok (.bipush (-5), 2) := by decide +kernel
theorem dX11_quarrel_51 : decode cX11_quarrel 51 = .ok (.ireturn, 1) := by decide +kernel
theorem dX11_quarrel_52 : decode cX11_quarrel 52 = .ok (.aload_n 0, 1) := by decide +kernel
theorem dX11_quarrel_53 : decode cX11_quarrel 53 = .ok (.iload 5, 2) := by decide +kernel
theorem dX11_quarrel_55 : decode cX11_quarrel 55 = .ok (.bipush 8, 2) := by decide +kernel
theorem dX11_quarrel_57 : decode cX11_quarrel 57 = .ok (.idiv, 1) := by decide +kernel
theorem dX11_quarrel_58 : decode cX11_quarrel 58 = .ok (.iload 5, 2) := by decide +kernel
theorem dX11_quarrel_60 : decode cX11_quarrel 60 = .ok (.bipush 8, 2) := by decide +kernel
theorem dX11_quarrel_62 : decode cX11_quarrel 62 = .ok (.irem, 1) := by decide +kernel
theorem dX11_quarrel_63 : decode cX11_quarrel 63 = .ok (.invokevirtual 347, 3) := by decide +kernel
theorem dX11_quarrel_66 : decode cX11_quarrel 66 = .ok (.istore 6, 2) := by decide +kernel
theorem dX11_quarrel_68 : decode cX11_quarrel 68 = .ok (.iconst (-1), 1) := by decide +kernel
theorem dX11_quarrel_69 : decode cX11_quarrel 69 = .ok (.istore 7, 2) := by decide +kernel
theorem dX11_quarrel_71 : decode cX11_quarrel 71 = .ok (.iconst 0, 1) := by decide +kernel
theorem dX11_quarrel_72 : decode cX11_quarrel 72 = .ok (.istore 8, 2) := by decide +kernel
theorem dX11_quarrel_74 : decode cX11_quarrel 74 = .ok (.iload 8, 2) := by decide +kernel
theorem dX11_quarrel_76 : decode cX11_quarrel 76 = .ok (.aload_n 0, 1) := by decide +kernel
theorem dX11_quarrel_77 : decode cX11_quarrel 77 = .ok (.getfield 326, 3) := by decide +kernel
theorem dX11_quarrel_80 : decode cX11_quarrel 80 = .ok (.if_icmp .ge 138, 3) := by decide +kernel
theorem dX11_quarrel_83 : decode cX11_quarrel 83 = .ok (.iconst 0, 1) := by decide +kernel
theorem dX11_quarrel_84 : decode cX11_quarrel 84 = .ok (.istore 9, 2) := by decide +kernel
theorem dX11_quarrel_86 : decode cX11_quarrel 86 = .ok (.iload 9, 2) := by decide +kernel
theorem dX11_quarrel_88 : decode cX11_quarrel 88 = .ok (.aload_n 0, 1) := by decide +kernel
theorem dX11_quarrel_89 : decode cX11_quarrel 89 = .ok (.getfield 45, 3) := by decide +kernel
theorem dX11_quarrel_92 : decode cX11_quarrel 92 = .ok (.iload 8, 2) := by decide +kernel
theorem dX11_quarrel_94 : decode cX11_quarrel 94 = .ok (.iaload, 1) := by decide +kernel
theorem dX11_quarrel_95 : decode cX11_quarrel 95 = .ok (.if_icmp .ge 117, 3) := by decide +kernel
theorem dX11_quarrel_98 : decode cX11_quarrel 98 = .ok (.aload_n 0, 1) := by decide +kernel
theorem dX11_quarrel_99 : decode cX11_quarrel 99 = .ok (.getfield 42, 3) := by decide +kernel
theorem dX11_quarrel_102 : decode cX11_quarrel 102 = .ok (.iload 8, 2) := by decide +kernel
theorem dX11_quarrel_104 : decode cX11_quarrel 104 = .ok (.iaload, 1) := by decide +kernel
theorem dX11_quarrel_105 : decode cX11_quarrel 105 = .ok (.aload_n 0, 1) := by decide +kernel
theorem dX11_quarrel_106 : decode cX11_quarrel 106 = .ok (.getfield 42, 3) := by decide +kernel
theorem dX11_quarrel_109 : decode cX11_quarrel 109 = .ok (.iload 5, 2) := by decide +kernel
theorem dX11_quarrel_111 : decode cX11_quarrel 111 = .ok (.bipush 8, 2) := by decide +kernel
theorem dX11_quarrel_113 : decode cX11_quarrel 113 = .ok (.idiv, 1) := by decide +kernel
theorem dX11_quarrel_114 : decode cX11_quarrel 114 = .ok (.iaload, 1) := by decide +kernel
theorem dX11_quarrel_115 : decode cX11_quarrel 115 = .ok (.if_icmp .ne 49, 3) := by decide +kernel
theorem dX11_quarrel_118 : decode cX11_quarrel 118 = .ok (.aload_n 0, 1) := by decide +kernel
theorem dX11_quarrel_119 : decode cX11_quarrel 119 = .ok (.getfield 52, 3) := by decide +kernel
theorem dX11_quarrel_122 : decode cX11_quarrel 122 = .ok (.bipush 8, 2) := by decide +kernel
theorem dX11_quarrel_124 : decode cX11_quarrel 124 = .ok (.iload 8, 2) := by decide +kernel
theorem dX11_quarrel_126 : decode cX11_quarrel 126 = .ok (.imul, 1) := by decide +kernel
theorem dX11_quarrel_127 : decode cX11_quarrel 127 = .ok (.iload 9, 2) := by decide +kernel
theorem dX11_quarrel_129 : decode cX11_quarrel 129 = .ok (.iadd, 1) := by decide +kernel
theorem dX11_quarrel_130 : decode cX11_quarrel 130 = .ok (.iaload, 1) := by decide +kernel
theorem dX11_quarrel_131 : decode cX11_quarrel 131 = .ok (.iload_n 1, 1) := by decide +kernel
theorem dX11_quarrel_132 : decode cX11_quarrel 132 = .ok (.if_icmp .ne 32, 3) := by decide +kernel
theorem dX11_quarrel_135 : decode cX11_quarrel 135 = .ok (.aload_n 0, 1) := by decide +kernel
theorem dX11_quarrel_136 : decode cX11_quarrel 136 = .ok (.iload 8, 2) := by decide +kernel
theorem dX11_quarrel_138 : decode cX11_quarrel 138 = .ok (.iload 9, 2) := by decide +kernel
theorem dX11_quarrel_140 : decode cX11_quarrel 140 = .ok (.iload_n 3, 1) := by decide +kernel
theorem dX11_quarrel_141 : decode cX11_quarrel 141 = .ok (.invokevirtual 335, 3) := by decide +kernel
theorem dX11_quarrel_144 : decode cX11_quarrel 144 = .ok (.ifCond .eq 20, 3) := by decide +kernel
theorem dX11_quarrel_147 : decode cX11_quarrel 147 = .ok (.bipush 8, 2) := by decide +kernel
theorem dX11_quarrel_149 : decode cX11_quarrel 149 = .ok (.iload 8, 2) := by decide +kernel
theorem dX11_quarrel_151 : decode cX11_quarrel 151 = .ok (.imul, 1) := by decide +kernel
theorem dX11_quarrel_152 : decode cX11_quarrel 152 = .ok (.iload 9, 2) := by decide +kernel
theorem dX11_quarrel_154 : decode cX11_quarrel 154 = .ok (.iadd, 1) := by decide +kernel
theorem dX11_quarrel_155 : decode cX11_quarrel 155 = .ok (.iload 5, 2) := by decide +kernel
theorem dX11_quarrel_157 : decode cX11_quarrel 157 = .ok (.if_icmp .eq 7, 3) := by decide +kernel
theorem dX11_quarrel_160 : decode cX11_quarrel 160 = .ok (.iconst 1, 1) := by decide +kernel
theorem dX11_quarrel_161 : decode cX11_quarrel 161 = .ok (.goto 4, 3) := by decide +kernel
theorem dX11_quarrel_164 : decode cX11_quarrel 164 = .ok (.iconst 0, 1) := by decide +kernel
theorem dX11_quarrel_165 : decode cX11_quarrel 165 = .ok (.istore 10, 2) := by decide +kernel
theorem dX11_quarrel_167 : decode cX11_quarrel 167 = .ok (.iload 10, 2) := by decide +kernel
theorem dX11_quarrel_169 : decode cX11_quarrel 169 = .ok (.ifCond .eq 37, 3) := by decide +kernel
theorem dX11_quarrel_172 : decode cX11_quarrel 172 = .ok (.aload_n 0, 1) := by decide +kernel
theorem dX11_quarrel_173 : decode cX11_quarrel 173 = .ok (.iload 8, 2) := by decide +kernel
theorem dX11_quarrel_175 : decode cX11_quarrel 175 = .ok (.iload 9, 2) := by decide +kernel
theorem dX11_quarrel_177 : decode cX11_quarrel 177 = .ok (.invokevirtual 338, 3) := by decide +kernel
theorem dX11_quarrel_180 : decode cX11_quarrel 180 = .ok (.ifCond .eq 26, 3) := by decide +kernel
theorem dX11_quarrel_183 : decode cX11_quarrel 183 = .ok (.aload_n 0, 1) := by decide +kernel
theorem dX11_quarrel_184 : decode cX11_quarrel 184 = .ok (.iload 8, 2) := by decide +kernel
theorem dX11_quarrel_186 : decode cX11_quarrel 186 = .ok (.iload 9, 2) := by decide +kernel
theorem dX11_quarrel_188 : decode cX11_quarrel 188 = .ok (.invokevirtual 347, 3) := by decide +kernel
theorem dX11_quarrel_191 : decode cX11_quarrel 191 = .ok (.iload 6, 2) := by decide +kernel
theorem dX11_quarrel_193 : decode cX11_quarrel 193 = .ok (.if_icmp .eq 13, 3) := by decide +kernel
theorem dX11_quarrel_196 : decode cX11_quarrel 196 = .ok (.bipush 8, 2) := by decide +kernel
theorem dX11_quarrel_198 : decode cX11_quarrel 198 = .ok (.iload 8, 2) := by decide +kernel
theorem dX11_quarrel_200 : decode cX11_quarrel 200 = .ok (.imul, 1) := by decide +kernel
theorem dX11_quarrel_201 : decode cX11_quarrel 201 = .ok (.iload 9, 2) := by decide +kernel
theorem dX11_quarrel_203 : decode cX11_quarrel 203 = .ok (.iadd, 1) := by decide +kernel
theorem dX11_quarrel_204 : decode cX11_quarrel 204 = .ok (.istore 7, 2) := by decide +kernel
theorem dX11_quarrel_206 : decode cX11_quarrel 206 = .ok (.iinc 9 1, 3) := by decide +kernel
theorem dX11_quarrel_209 : decode cX11_quarrel 209 = .ok (.goto (-123), 3) := by decide +kernel
theorem dX11_quarrel_212 : decode cX11_quarrel 212 = .ok (.iinc 8 1, 3) := by decide +kernel
theorem dX11_quarrel_215 : decode cX11_quarrel 215 = .ok (.goto (-141), 3) := by decide +kernel
theorem dX11_quarrel_218 : decode cX11_quarrel 218 = .ok (.iload 7, 2) := by decide +kernel
theorem dX11_quarrel_220 : decode cX11_quarrel 220 = .ok (.invokestatic 353, 3) := by decide +kernel
theorem dX11_quarrel_223 : decode cX11_quarrel 223 = .ok (.ireturn, 1) := by decide +kernel
set_option maxRecDepth 100000 in
theorem t_M_quarrel_J206 (hC : CX z ad x cX11_quarrel RX11 11 (some .int)) (hR : x.2.2.1 = rmk 617 0 0) (k_74 : MS → Int32 → Int32 → Int32 → Int32 → Int32 → Int32 → Option (Int32 × MS)) (hk_74 : ∀ (σ : MS) (a1 : Int32) (a3 : Int32) (a5 : Int32) (a6 : Int32) (a7 : Int32) (a8 : Int32), AT z x 11 (wM z τ) rI (eqA ad) 0 0 0 0 ad 74 [(0, .ref 0), (1, .int a1), (3, .int a3), (5, .int a5), (6, .int a6), (7, .int a7), (8, .int a8)] [] σ (k_74 σ a1 a3 a5 a6 a7 a8)) (k_86 : MS → Int32 → Int32 → Int32 → Int32 → Int32 → Int32 → Int32 → Option (Int32 × MS)) (hk_86 : ∀ (σ : MS) (a1 : Int32) (a3 : Int32) (a5 : Int32) (a6 : Int32) (a7 : Int32) (a8 : Int32) (a9 : Int32), AT z x 11 (wM z τ) rI (eqA ad) 0 0 0 0 ad 86 [(0, .ref 0), (1, .int a1), (3, .int a3), (5, .int a5), (6, .int a6), (7, .int a7), (8, .int a8), (9, .int a9)] [] σ (k_86 σ a1 a3 a5 a6 a7 a8 a9)) (σ : MS) (a1 : Int32) (a3 : Int32) (a5 : Int32) (a6 : Int32) (a7 : Int32) (a8 : Int32) (a9 : Int32) : AT z x 11 (wM z τ) rI (eqA ad) 0 0 0 0 ad 206 [(0, .ref 0), (1, .int a1), (3, .int a3), (5, .int a5), (6, .int a6), (7, .int a7), (8, .int a8), (9, .int a9)] [] σ (M_quarrel_J206 k_74 k_86 σ a1 a3 a5 a6 a7 a8 a9) := by
  unfold M_quarrel_J206
  refine at_iinc (j := 7) (v := a9 + 1) (lv' := [(9, .int (a9 + 1)), (0, .ref 0), (1, .int a1), (3, .int a3), (5, .int a5), (6, .int a6), (7, .int a7), (8, .int a8)]) hC dX11_quarrel_206 rfl rfl (by decide) rfl ?_
  refine at_goto (tgt := 86) hC dX11_quarrel_209 rfl ?_
  refine at_drop (lv' := [(0, .ref 0), (1, .int a1), (3, .int a3), (5, .int a5), (6, .int a6), (7, .int a7), (8, .int a8), (9, .int (a9 + 1))]) [1, 2, 3, 4, 5, 6, 7, 0] rfl ?_
  exact hk_86 σ a1 a3 a5 a6 a7 a8 (a9 + 1)
set_option maxRecDepth 100000 in
theorem t_M_quarrel_J165 (hC : CX z ad x cX11_quarrel RX11 11 (some .int)) (hR : x.2.2.1 = rmk 617 0 0) (k_74 : MS → Int32 → Int32 → Int32 → Int32 → Int32 → Int32 → Option (Int32 × MS)) (hk_74 : ∀ (σ : MS) (a1 : Int32) (a3 : Int32) (a5 : Int32) (a6 : Int32) (a7 : Int32) (a8 : Int32), AT z x 11 (wM z τ) rI (eqA ad) 0 0 0 0 ad 74 [(0, .ref 0), (1, .int a1), (3, .int a3), (5, .int a5), (6, .int a6), (7, .int a7), (8, .int a8)] [] σ (k_74 σ a1 a3 a5 a6 a7 a8)) (k_86 : MS → Int32 → Int32 → Int32 → Int32 → Int32 → Int32 → Int32 → Option (Int32 × MS)) (hk_86 : ∀ (σ : MS) (a1 : Int32) (a3 : Int32) (a5 : Int32) (a6 : Int32) (a7 : Int32) (a8 : Int32) (a9 : Int32), AT z x 11 (wM z τ) rI (eqA ad) 0 0 0 0 ad 86 [(0, .ref 0), (1, .int a1), (3, .int a3), (5, .int a5), (6, .int a6), (7, .int a7), (8, .int a8), (9, .int a9)] [] σ (k_86 σ a1 a3 a5 a6 a7 a8 a9)) (σ : MS) (a1 : Int32) (a3 : Int32) (a5 : Int32) (a6 : Int32) (a7 : Int32) (a8 : Int32) (a9 : Int32) (s0 : Int32) : AT z x 11 (wM z τ) rI (eqA ad) 0 0 0 0 ad 165 [(0, .ref 0), (1, .int a1), (3, .int a3), (5, .int a5), (6, .int a6), (7, .int a7), (8, .int a8), (9, .int a9)] [.int s0] σ (M_quarrel_J165 k_74 k_86 σ a1 a3 a5 a6 a7 a8 a9 s0) := by
  unfold M_quarrel_J165
  refine at_istore (lv' := [(10, .int s0), (0, .ref 0), (1, .int a1), (3, .int a3), (5, .int a5), (6, .int a6), (7, .int a7), (8, .int a8), (9, .int a9)]) hC dX11_quarrel_165 (by decide) rfl ?_
  refine at_iload (j := 0) hC rfl dX11_quarrel_167 ?_
  refine at_if_eq (tgt := 206) hC dX11_quarrel_169 rfl (fun _ => ?_) (fun _ => ?_)
  · refine at_drop (lv' := [(0, .ref 0), (1, .int a1), (3, .int a3), (5, .int a5), (6, .int a6), (7, .int a7), (8, .int a8), (9, .int a9)]) [1, 2, 3, 4, 5, 6, 7, 8] rfl ?_
    exact t_M_quarrel_J206 hC hR k_74 hk_74 k_86 hk_86 σ a1 a3 a5 a6 a7 a8 a9
  · refine at_aload_n (j := 1) hC rfl rfl dX11_quarrel_172 ?_
    refine at_iload (j := 7) hC rfl dX11_quarrel_173 ?_
    refine at_iload (j := 8) hC rfl dX11_quarrel_175 ?_
    refine at_callVI hC hR lk_X11_338 (c_M_isSo σ a8 a9) dX11_quarrel_177 recX11 rfl rfl ⟨by decide, by decide⟩ (Nat.le_of_ble_eq_true rfl) ⟨Nat.le_refl 0, Nat.le_refl 0⟩ (fun r11 r11s _ => ?_)
    refine at_if_eq (tgt := 206) hC dX11_quarrel_180 rfl (fun _ => ?_) (fun _ => ?_)
    · refine at_drop (lv' := [(0, .ref 0), (1, .int a1), (3, .int a3), (5, .int a5), (6, .int a6), (7, .int a7), (8, .int a8), (9, .int a9)]) [1, 2, 3, 4, 5, 6, 7, 8] rfl ?_
      exact t_M_quarrel_J206 hC hR k_74 hk_74 k_86 hk_86 r11s a1 a3 a5 a6 a7 a8 a9
    · refine at_aload_n (j := 1) hC rfl rfl dX11_quarrel_183 ?_
      refine at_iload (j := 7) hC rfl dX11_quarrel_184 ?_
      refine at_iload (j := 8) hC rfl dX11_quarrel_186 ?_
      refine at_callVI hC hR lk_X11_347 (c_M_comesTo r11s a8 a9) dX11_quarrel_188 recX11 rfl rfl ⟨by decide, by decide⟩ (Nat.le_of_ble_eq_true rfl) ⟨Nat.le_refl 0, Nat.le_refl 0⟩ (fun r12 r12s _ => ?_)
      refine at_iload (j := 5) hC rfl dX11_quarrel_191 ?_
      refine at_icmp_eq (tgt := 206) hC dX11_quarrel_193 rfl (fun _ => ?_) (fun _ => ?_)
      · refine at_drop (lv' := [(0, .ref 0), (1, .int a1), (3, .int a3), (5, .int a5), (6, .int a6), (7, .int a7), (8, .int a8), (9, .int a9)]) [1, 2, 3, 4, 5, 6, 7, 8] rfl ?_
        exact t_M_quarrel_J206 hC hR k_74 hk_74 k_86 hk_86 r12s a1 a3 a5 a6 a7 a8 a9
      · refine at_bipush hC bi_8 dX11_quarrel_196 ?_
        refine at_iload (j := 7) hC rfl dX11_quarrel_198 ?_
        refine at_imul hC dX11_quarrel_200 ?_
        refine at_iload (j := 8) hC rfl dX11_quarrel_201 ?_
        refine at_iadd hC dX11_quarrel_203 ?_
        refine at_istore (lv' := [(7, .int ((8 * a8) + a9)), (10, .int s0), (0, .ref 0), (1, .int a1), (3, .int a3), (5, .int a5), (6, .int a6), (8, .int a8), (9, .int a9)]) hC dX11_quarrel_204 (by decide) rfl ?_
        refine at_drop (lv' := [(0, .ref 0), (1, .int a1), (3, .int a3), (5, .int a5), (6, .int a6), (7, .int ((8 * a8) + a9)), (8, .int a8), (9, .int a9)]) [2, 3, 4, 5, 6, 0, 7, 8] rfl ?_
        exact t_M_quarrel_J206 hC hR k_74 hk_74 k_86 hk_86 r12s a1 a3 a5 a6 ((8 * a8) + a9) a8 a9
set_option maxRecDepth 100000 in
theorem t_M_quarrel_J164 (hC : CX z ad x cX11_quarrel RX11 11 (some .int)) (hR : x.2.2.1 = rmk 617 0 0) (k_74 : MS → Int32 → Int32 → Int32 → Int32 → Int32 → Int32 → Option (Int32 × MS)) (hk_74 : ∀ (σ : MS) (a1 : Int32) (a3 : Int32) (a5 : Int32) (a6 : Int32) (a7 : Int32) (a8 : Int32), AT z x 11 (wM z τ) rI (eqA ad) 0 0 0 0 ad 74 [(0, .ref 0), (1, .int a1), (3, .int a3), (5, .int a5), (6, .int a6), (7, .int a7), (8, .int a8)] [] σ (k_74 σ a1 a3 a5 a6 a7 a8)) (k_86 : MS → Int32 → Int32 → Int32 → Int32 → Int32 → Int32 → Int32 → Option (Int32 × MS)) (hk_86 : ∀ (σ : MS) (a1 : Int32) (a3 : Int32) (a5 : Int32) (a6 : Int32) (a7 : Int32) (a8 : Int32) (a9 : Int32), AT z x 11 (wM z τ) rI (eqA ad) 0 0 0 0 ad 86 [(0, .ref 0), (1, .int a1), (3, .int a3), (5, .int a5), (6, .int a6), (7, .int a7), (8, .int a8), (9, .int a9)] [] σ (k_86 σ a1 a3 a5 a6 a7 a8 a9)) (σ : MS) (a1 : Int32) (a3 : Int32) (a5 : Int32) (a6 : Int32) (a7 : Int32) (a8 : Int32) (a9 : Int32) : AT z x 11 (wM z τ) rI (eqA ad) 0 0 0 0 ad 164 [(0, .ref 0), (1, .int a1), (3, .int a3), (5, .int a5), (6, .int a6), (7, .int a7), (8, .int a8), (9, .int a9)] [] σ (M_quarrel_J164 k_74 k_86 σ a1 a3 a5 a6 a7 a8 a9) := by
  unfold M_quarrel_J164
  refine at_iconst hC ic_0 dX11_quarrel_164 ?_
  exact t_M_quarrel_J165 hC hR k_74 hk_74 k_86 hk_86 σ a1 a3 a5 a6 a7 a8 a9 0
set_option maxRecDepth 100000 in
theorem t_M_quarrel_L86 (hC : CX z ad x cX11_quarrel RX11 11 (some .int)) (hR : x.2.2.1 = rmk 617 0 0) (k_74 : MS → Int32 → Int32 → Int32 → Int32 → Int32 → Int32 → Option (Int32 × MS)) (hk_74 : ∀ (σ : MS) (a1 : Int32) (a3 : Int32) (a5 : Int32) (a6 : Int32) (a7 : Int32) (a8 : Int32), AT z x 11 (wM z τ) rI (eqA ad) 0 0 0 0 ad 74 [(0, .ref 0), (1, .int a1), (3, .int a3), (5, .int a5), (6, .int a6), (7, .int a7), (8, .int a8)] [] σ (k_74 σ a1 a3 a5 a6 a7 a8)) (n : Nat) (σ : MS) (a1 : Int32) (a3 : Int32) (a5 : Int32) (a6 : Int32) (a7 : Int32) (a8 : Int32) (a9 : Int32) : AT z x 11 (wM z τ) rI (eqA ad) 0 0 0 0 ad 86 [(0, .ref 0), (1, .int a1), (3, .int a3), (5, .int a5), (6, .int a6), (7, .int a7), (8, .int a8), (9, .int a9)] [] σ (M_quarrel_L86 k_74 n σ a1 a3 a5 a6 a7 a8 a9) := by
  revert σ a1 a3 a5 a6 a7 a8 a9
  show ∀ (σ : MS) (a1 : Int32) (a3 : Int32) (a5 : Int32) (a6 : Int32) (a7 : Int32) (a8 : Int32) (a9 : Int32), AT z x 11 (wM z τ) rI (eqA ad) 0 0 0 0 ad 86 [(0, .ref 0), (1, .int a1), (3, .int a3), (5, .int a5), (6, .int a6), (7, .int a7), (8, .int a8), (9, .int a9)] [] σ (M_quarrel_L86_r k_74 n σ a1 a3 a5 a6 a7 a8 a9)
  induction n with
  | zero => intro σ a1 a3 a5 a6 a7 a8 a9; exact at_none
  | succ n hk_86 =>
    intro σ a1 a3 a5 a6 a7 a8 a9
    unfold M_quarrel_L86_r
    refine at_iload (j := 7) hC rfl dX11_quarrel_86 ?_
    refine at_aload_n (j := 0) hC rfl rfl dX11_quarrel_88 ?_
    refine gf_X11_45 hC dX11_quarrel_89 ?_
    refine at_iload (j := 6) hC rfl dX11_quarrel_92 ?_
    refine at_iald hC 12 dX11_quarrel_94 cl_12 (fun v8 => ?_)
    refine at_icmp_ge (tgt := 212) hC dX11_quarrel_95 rfl (fun _ => ?_) (fun _ => ?_)
    · refine at_iinc (j := 6) (v := a8 + 1) (lv' := [(8, .int (a8 + 1)), (0, .ref 0), (1, .int a1), (3, .int a3), (5, .int a5), (6, .int a6), (7, .int a7), (9, .int a9)]) hC dX11_quarrel_212 rfl rfl (by decide) rfl ?_
      refine at_goto (tgt := 74) hC dX11_quarrel_215 rfl ?_
      refine at_drop (lv' := [(0, .ref 0), (1, .int a1), (3, .int a3), (5, .int a5), (6, .int a6), (7, .int a7), (8, .int (a8 + 1))]) [1, 2, 3, 4, 5, 6, 0] rfl ?_
      exact hk_74 σ a1 a3 a5 a6 a7 (a8 + 1)
    · refine at_aload_n (j := 0) hC rfl rfl dX11_quarrel_98 ?_
      refine gf_X11_42 hC dX11_quarrel_99 ?_
      refine at_iload (j := 6) hC rfl dX11_quarrel_102 ?_
      refine at_iald hC 11 dX11_quarrel_104 cl_11 (fun v9 => ?_)
      refine at_aload_n (j := 0) hC rfl rfl dX11_quarrel_105 ?_
      refine gf_X11_42 hC dX11_quarrel_106 ?_
      refine at_iload (j := 3) hC rfl dX11_quarrel_109 ?_
      refine at_bipush hC bi_8 dX11_quarrel_111 ?_
      refine at_idiv hC (by decide) dX11_quarrel_113 ?_
      refine at_iald hC 11 dX11_quarrel_114 cl_11 (fun v10 => ?_)
      refine at_icmp_ne (tgt := 164) hC dX11_quarrel_115 rfl (fun _ => ?_) (fun _ => ?_)
      · exact t_M_quarrel_J164 hC hR k_74 hk_74 (M_quarrel_L86_r k_74 n) hk_86 σ a1 a3 a5 a6 a7 a8 a9
      · refine at_aload_n (j := 0) hC rfl rfl dX11_quarrel_118 ?_
        refine gf_X11_52 hC dX11_quarrel_119 ?_
        refine at_bipush hC bi_8 dX11_quarrel_122 ?_
        refine at_iload (j := 6) hC rfl dX11_quarrel_124 ?_
        refine at_imul hC dX11_quarrel_126 ?_
        refine at_iload (j := 7) hC rfl dX11_quarrel_127 ?_
        refine at_iadd hC dX11_quarrel_129 ?_
        refine at_iald hC 14 dX11_quarrel_130 cl_14 (fun v13 => ?_)
        refine at_iload_n (j := 1) hC rfl rfl dX11_quarrel_131 ?_
        refine at_icmp_ne (tgt := 164) hC dX11_quarrel_132 rfl (fun _ => ?_) (fun _ => ?_)
        · exact t_M_quarrel_J164 hC hR k_74 hk_74 (M_quarrel_L86_r k_74 n) hk_86 σ a1 a3 a5 a6 a7 a8 a9
        · refine at_aload_n (j := 0) hC rfl rfl dX11_quarrel_135 ?_
          refine at_iload (j := 6) hC rfl dX11_quarrel_136 ?_
          refine at_iload (j := 7) hC rfl dX11_quarrel_138 ?_
          refine at_iload_n (j := 2) hC rfl rfl dX11_quarrel_140 ?_
          refine at_callVpI hC hR lk_X11_335 (c_M_isForce σ a8 a9 a3) dX11_quarrel_141 recX11 rfl rfl ⟨by decide, by decide⟩ (Nat.le_of_ble_eq_true rfl) ⟨Nat.le_refl 0, Nat.le_refl 0⟩ (fun r14 _ => ?_)
          refine at_if_eq (tgt := 164) hC dX11_quarrel_144 rfl (fun _ => ?_) (fun _ => ?_)
          · exact t_M_quarrel_J164 hC hR k_74 hk_74 (M_quarrel_L86_r k_74 n) hk_86 σ a1 a3 a5 a6 a7 a8 a9
          · refine at_bipush hC bi_8 dX11_quarrel_147 ?_
            refine at_iload (j := 6) hC rfl dX11_quarrel_149 ?_
            refine at_imul hC dX11_quarrel_151 ?_
            refine at_iload (j := 7) hC rfl dX11_quarrel_152 ?_
            refine at_iadd hC dX11_quarrel_154 ?_
            refine at_iload (j := 3) hC rfl dX11_quarrel_155 ?_
            refine at_icmp_eq (tgt := 164) hC dX11_quarrel_157 rfl (fun _ => ?_) (fun _ => ?_)
            · exact t_M_quarrel_J164 hC hR k_74 hk_74 (M_quarrel_L86_r k_74 n) hk_86 σ a1 a3 a5 a6 a7 a8 a9
            · refine at_iconst hC ic_1 dX11_quarrel_160 ?_
              refine at_goto (tgt := 165) hC dX11_quarrel_161 rfl ?_
              exact t_M_quarrel_J165 hC hR k_74 hk_74 (M_quarrel_L86_r k_74 n) hk_86 σ a1 a3 a5 a6 a7 a8 a9 1
set_option maxRecDepth 100000 in
theorem t_M_quarrel_L74 (hC : CX z ad x cX11_quarrel RX11 11 (some .int)) (hR : x.2.2.1 = rmk 617 0 0) (n : Nat) (σ : MS) (a1 : Int32) (a3 : Int32) (a5 : Int32) (a6 : Int32) (a7 : Int32) (a8 : Int32) : AT z x 11 (wM z τ) rI (eqA ad) 0 0 0 0 ad 74 [(0, .ref 0), (1, .int a1), (3, .int a3), (5, .int a5), (6, .int a6), (7, .int a7), (8, .int a8)] [] σ (M_quarrel_L74 n σ a1 a3 a5 a6 a7 a8) := by
  revert σ a1 a3 a5 a6 a7 a8
  show ∀ (σ : MS) (a1 : Int32) (a3 : Int32) (a5 : Int32) (a6 : Int32) (a7 : Int32) (a8 : Int32), AT z x 11 (wM z τ) rI (eqA ad) 0 0 0 0 ad 74 [(0, .ref 0), (1, .int a1), (3, .int a3), (5, .int a5), (6, .int a6), (7, .int a7), (8, .int a8)] [] σ (M_quarrel_L74_r n σ a1 a3 a5 a6 a7 a8)
  induction n with
  | zero => intro σ a1 a3 a5 a6 a7 a8; exact at_none
  | succ n hk_74 =>
    intro σ a1 a3 a5 a6 a7 a8
    unfold M_quarrel_L74_r
    refine at_iload (j := 6) hC rfl dX11_quarrel_74 ?_
    refine at_aload_n (j := 0) hC rfl rfl dX11_quarrel_76 ?_
    refine gf_X11_326 hC dX11_quarrel_77 ?_
    refine at_icmp_ge (tgt := 218) hC dX11_quarrel_80 rfl (fun _ => ?_) (fun _ => ?_)
    · refine at_iload (j := 5) hC rfl dX11_quarrel_218 ?_
      refine at_callSpI hC hR lk_X11_353 (c_M_placed σ a7) dX11_quarrel_220 rfl rfl ⟨by decide, by decide⟩ (Nat.le_of_ble_eq_true rfl) ⟨Nat.le_refl 0, Nat.le_refl 0⟩ (fun r7 _ => ?_)
      exact at_iret (F := eqA ad) (ra := rI) hC dX11_quarrel_223 rfl (Nat.le_refl 0) (Nat.le_refl 0) rfl
    · refine at_iconst hC ic_0 dX11_quarrel_83 ?_
      refine at_istore (lv' := [(9, .int 0), (0, .ref 0), (1, .int a1), (3, .int a3), (5, .int a5), (6, .int a6), (7, .int a7), (8, .int a8)]) hC dX11_quarrel_84 (by decide) rfl ?_
      refine at_drop (lv' := [(0, .ref 0), (1, .int a1), (3, .int a3), (5, .int a5), (6, .int a6), (7, .int a7), (8, .int a8), (9, .int 0)]) [1, 2, 3, 4, 5, 6, 7, 0] rfl ?_
      exact t_M_quarrel_L86 hC hR (M_quarrel_L74_r n) hk_74 100000 σ a1 a3 a5 a6 a7 a8 0
set_option maxRecDepth 100000 in
theorem c_M_quarrel (σ : MS) (p0 : Int32) (p1 : Int32) (p2 : Int32) (p3 : Int32) : Ct z (wM z τ) rI eqA yX11_quarrel cX11_quarrel 11 (some .int) 617 0 0 [.ref 0, .int p0, .int p1, .int p2, .int p3] σ (M_quarrel σ p0 p1 p2 p3) := by
  refine Ct.of (by decide) (Nat.le_of_ble_eq_true rfl) (fun ad x hC hR _ => ?_)
  show AT z x 11 (wM z τ) rI (eqA ad) 0 0 0 0 ad 0 [(0, .ref 0), (1, .int p0), (2, .int p1), (3, .int p2), (4, .int p3)] [] σ (M_quarrel σ p0 p1 p2 p3)
  unfold M_quarrel
  refine at_aload_n (j := 0) hC rfl rfl dX11_quarrel_0 ?_
  refine at_iload_n (j := 1) hC rfl rfl dX11_quarrel_1 ?_
  refine at_iload_n (j := 2) hC rfl rfl dX11_quarrel_2 ?_
  refine at_iload (j := 4) hC rfl dX11_quarrel_3 ?_
  refine at_callVpI hC hR lk_X11_350 (c_M_isAsked σ p0 p1 p3) dX11_quarrel_5 recX11 rfl rfl ⟨by decide, by decide⟩ (Nat.le_of_ble_eq_true rfl) ⟨Nat.le_refl 0, Nat.le_refl 0⟩ (fun r1 _ => ?_)
  refine at_if_ne (tgt := 13) hC dX11_quarrel_8 rfl (fun _ => ?_) (fun _ => ?_)
  · refine at_iload_n (j := 3) hC rfl rfl dX11_quarrel_13 ?_
    refine at_callSpI hC hR lk_X11_177 (c_M_isDay σ p2) dX11_quarrel_14 rfl rfl ⟨by decide, by decide⟩ (Nat.le_of_ble_eq_true rfl) ⟨Nat.le_refl 0, Nat.le_refl 0⟩ (fun r2 _ => ?_)
    refine at_if_ne (tgt := 23) hC dX11_quarrel_17 rfl (fun _ => ?_) (fun _ => ?_)
    · refine at_aload_n (j := 0) hC rfl rfl dX11_quarrel_23 ?_
      refine at_iload (j := 4) hC rfl dX11_quarrel_24 ?_
      refine at_callVU hC hR lk_X11_143 (c_M_looks σ p3) dX11_quarrel_26 recX11 rfl rfl ⟨by decide, by decide⟩ (Nat.le_of_ble_eq_true rfl) ⟨Nat.le_refl 0, Nat.le_refl 0⟩ (fun r3 r3s _ => ?_)
      refine at_aload_n (j := 0) hC rfl rfl dX11_quarrel_29 ?_
      refine at_iload_n (j := 2) hC rfl rfl dX11_quarrel_30 ?_
      refine at_iload_n (j := 3) hC rfl rfl dX11_quarrel_31 ?_
      refine at_callVU hC hR lk_X11_341 (c_M_namesOf r3s p1 p2) dX11_quarrel_32 recX11 rfl rfl ⟨by decide, by decide⟩ (Nat.le_of_ble_eq_true rfl) ⟨Nat.le_refl 0, Nat.le_refl 0⟩ (fun r4 r4s _ => ?_)
      refine at_aload_n (j := 0) hC rfl rfl dX11_quarrel_35 ?_
      refine at_iload_n (j := 1) hC rfl rfl dX11_quarrel_36 ?_
      refine at_iload_n (j := 3) hC rfl rfl dX11_quarrel_37 ?_
      refine at_callVI hC hR lk_X11_344 (c_M_governs r4s p0 p2) dX11_quarrel_38 recX11 rfl rfl ⟨by decide, by decide⟩ (Nat.le_of_ble_eq_true rfl) ⟨Nat.le_refl 0, Nat.le_refl 0⟩ (fun r5 r5s _ => ?_)
      refine at_istore (lv' := [(5, .int r5), (0, .ref 0), (1, .int p0), (2, .int p1), (3, .int p2), (4, .int p3)]) hC dX11_quarrel_41 (by decide) rfl ?_
      refine at_iload (j := 0) hC rfl dX11_quarrel_43 ?_
      refine at_iconst hC ic_m1 dX11_quarrel_45 ?_
      refine at_icmp_ne (tgt := 52) hC dX11_quarrel_46 rfl (fun _ => ?_) (fun _ => ?_)
      · refine at_aload_n (j := 1) hC rfl rfl dX11_quarrel_52 ?_
        refine at_iload (j := 0) hC rfl dX11_quarrel_53 ?_
        refine at_bipush hC bi_8 dX11_quarrel_55 ?_
        refine at_idiv hC (by decide) dX11_quarrel_57 ?_
        refine at_iload (j := 0) hC rfl dX11_quarrel_58 ?_
        refine at_bipush hC bi_8 dX11_quarrel_60 ?_
        refine at_irem hC (by decide) dX11_quarrel_62 ?_
        refine at_callVI hC hR lk_X11_347 (c_M_comesTo r5s (r5 / 8) (r5 - r5 / 8 * 8)) dX11_quarrel_63 recX11 rfl rfl ⟨by decide, by decide⟩ (Nat.le_of_ble_eq_true rfl) ⟨Nat.le_refl 0, Nat.le_refl 0⟩ (fun r6 r6s _ => ?_)
        refine at_istore (lv' := [(6, .int r6), (5, .int r5), (0, .ref 0), (1, .int p0), (2, .int p1), (3, .int p2), (4, .int p3)]) hC dX11_quarrel_66 (by decide) rfl ?_
        refine at_iconst hC ic_m1 dX11_quarrel_68 ?_
        refine at_istore (lv' := [(7, .int (-1)), (6, .int r6), (5, .int r5), (0, .ref 0), (1, .int p0), (2, .int p1), (3, .int p2), (4, .int p3)]) hC dX11_quarrel_69 (by decide) rfl ?_
        refine at_iconst hC ic_0 dX11_quarrel_71 ?_
        refine at_istore (lv' := [(8, .int 0), (7, .int (-1)), (6, .int r6), (5, .int r5), (0, .ref 0), (1, .int p0), (2, .int p1), (3, .int p2), (4, .int p3)]) hC dX11_quarrel_72 (by decide) rfl ?_
        refine at_drop (lv' := [(0, .ref 0), (1, .int p0), (3, .int p2), (5, .int r5), (6, .int r6), (7, .int (-1)), (8, .int 0)]) [4, 5, 7, 3, 2, 1, 0] rfl ?_
        exact t_M_quarrel_L74 hC hR 100000 r6s p0 p2 r5 r6 (-1) 0
      · refine at_bipush hC bi_m5 dX11_quarrel_49 ?_
        exact at_iret (F := eqA ad) (ra := rI) hC dX11_quarrel_51 rfl (Nat.le_refl 0) (Nat.le_refl 0) rfl
    · refine at_bipush hC bi_m2 dX11_quarrel_20 ?_
      exact at_iret (F := eqA ad) (ra := rI) hC dX11_quarrel_22 rfl (Nat.le_refl 0) (Nat.le_refl 0) rfl
  · refine at_iconst hC ic_m1 dX11_quarrel_11 ?_
    exact at_iret (F := eqA ad) (ra := rI) hC dX11_quarrel_12 rfl (Nat.le_refl 0) (Nat.le_refl 0) rfl
theorem dX11_dueOf_0 : decode cX11_dueOf 0 = .ok (.aload_n 0, 1) := by decide +kernel
theorem dX11_dueOf_1 : decode cX11_dueOf 1 = .ok (.iload_n 1, 1) := by decide +kernel
theorem dX11_dueOf_2 : decode cX11_dueOf 2 = .ok (.iload_n 2, 1) := by decide +kernel
theorem dX11_dueOf_3 : decode cX11_dueOf 3 = .ok (.invokevirtual 162, 3) := by decide +kernel
theorem dX11_dueOf_6 : decode cX11_dueOf 6 = .ok (.ifCond .eq 19, 3) := by decide +kernel
theorem dX11_dueOf_9 : decode cX11_dueOf 9 = .ok (.aload_n 0, 1) := by decide +kernel
theorem dX11_dueOf_10 : decode cX11_dueOf 10 = .ok (.iconst 0, 1) := by decide +kernel
theorem dX11_dueOf_11 : decode cX11_dueOf 11 = .ok (.aload_n 0, 1) := by decide +kernel
theorem dX11_dueOf_12 : decode cX11_dueOf 12 = .ok (.iconst 0, 1) := by decide +kernel
theorem dX11_dueOf_13 : decode cX11_dueOf 13 = .ok (.iload_n 1, 1) := by decide +kernel
theorem dX11_dueOf_14 : decode cX11_dueOf 14 = .ok (.iload_n 2, 1) := by decide +kernel
theorem dX11_dueOf_15 : decode cX11_dueOf 15 = .ok (.iload_n 2, 1) := by decide +kernel
theorem dX11_dueOf_16 : decode cX11_dueOf 16 = .ok (.invokevirtual 193, 3) := by decide +kernel
theorem dX11_dueOf_19 : decode cX11_dueOf 19 = .ok (.invokevirtual 357, 3) := by decide +kernel
theorem dX11_dueOf_22 : decode cX11_dueOf 22 = .ok (.goto 4, 3) := by decide +kernel
theorem dX11_dueOf_25 : decode cX11_dueOf 25 = .ok (.iconst 0, 1) := by decide +kernel
theorem dX11_dueOf_26 : decode cX11_dueOf 26 = .ok (.ireturn, 1) := by decide +kernel
set_option maxRecDepth 100000 in
theorem c_M_dueOf (σ : MS) (p0 : Int32) (p1 : Int32) : Ct z (wM z τ) rI eqA yX11_dueOf cX11_dueOf 3 (some .int) 618 0 0 [.ref 0, .int p0, .int p1] σ (M_dueOf σ p0 p1) := by
  refine Ct.of (by decide) (Nat.le_of_ble_eq_true rfl) (fun ad x hC hR _ => ?_)
  show AT z x 3 (wM z τ) rI (eqA ad) 0 0 0 0 ad 0 [(0, .ref 0), (1, .int p0), (2, .int p1)] [] σ (M_dueOf σ p0 p1)
  unfold M_dueOf
  refine at_aload_n (j := 0) hC rfl rfl dX11_dueOf_0 ?_
  refine at_iload_n (j := 1) hC rfl rfl dX11_dueOf_1 ?_
  refine at_iload_n (j := 2) hC rfl rfl dX11_dueOf_2 ?_
  refine at_callVpI hC hR lk_X11_162 (c_M_isMember σ p0 p1) dX11_dueOf_3 recX11 rfl rfl ⟨by decide, by decide⟩ (Nat.le_of_ble_eq_true rfl) ⟨Nat.le_refl 0, Nat.le_refl 0⟩ (fun r1 _ => ?_)
  refine at_if_eq (tgt := 25) hC dX11_dueOf_6 rfl (fun _ => ?_) (fun _ => ?_)
  · refine at_iconst hC ic_0 dX11_dueOf_25 ?_
    exact at_iret (F := eqA ad) (ra := rI) hC dX11_dueOf_26 rfl (Nat.le_refl 0) (Nat.le_refl 0) rfl
  · refine at_aload_n (j := 0) hC rfl rfl dX11_dueOf_9 ?_
    refine at_iconst hC ic_0 dX11_dueOf_10 ?_
    refine at_aload_n (j := 0) hC rfl rfl dX11_dueOf_11 ?_
    refine at_iconst hC ic_0 dX11_dueOf_12 ?_
    refine at_iload_n (j := 1) hC rfl rfl dX11_dueOf_13 ?_
    refine at_iload_n (j := 2) hC rfl rfl dX11_dueOf_14 ?_
    refine at_iload_n (j := 2) hC rfl rfl dX11_dueOf_15 ?_
    refine at_callVI hC hR lk_X11_193 (c_M_ruled σ 0 p0 p1 p1) dX11_dueOf_16 recX11 rfl rfl ⟨by decide, by decide⟩ (Nat.le_of_ble_eq_true rfl) ⟨Nat.le_refl 0, Nat.le_refl 0⟩ (fun r2 r2s _ => ?_)
    refine at_callVpI hC hR lk_X11_357 (c_M_stepped r2s 0 r2) dX11_dueOf_19 recX11 rfl rfl ⟨by decide, by decide⟩ (Nat.le_of_ble_eq_true rfl) ⟨Nat.le_refl 0, Nat.le_refl 0⟩ (fun r3 _ => ?_)
    refine at_goto (tgt := 26) hC dX11_dueOf_22 rfl ?_
    exact at_iret (F := eqA ad) (ra := rI) hC dX11_dueOf_26 rfl (Nat.le_refl 0) (Nat.le_refl 0) rfl
theorem dX11_yearOf_0 : decode cX11_yearOf 0 = .ok (.iload_n 0, 1) := by decide +kernel
theorem dX11_yearOf_1 : decode cX11_yearOf 1 = .ok (.bipush 100, 2) := by decide +kernel
theorem dX11_yearOf_3 : decode cX11_yearOf 3 = .ok (.idiv, 1) := by decide +kernel
theorem dX11_yearOf_4 : decode cX11_yearOf 4 = .ok (.ireturn, 1) := by decide +kernel
set_option maxRecDepth 100000 in
theorem c_M_yearOf (σ : MS) (p0 : Int32) : Ct z (wM z τ) rI eqA yX11_yearOf cX11_yearOf 1 (some .int) 1 0 0 [.int p0] σ ((M_yearOf σ p0).map fun r => (r, σ)) := by
  refine Ct.of (by decide) (Nat.le_of_ble_eq_true rfl) (fun ad x hC hR _ => ?_)
  show AT z x 1 (wM z τ) rI (eqA ad) 0 0 0 0 ad 0 [(0, .int p0)] [] σ ((M_yearOf σ p0).map fun r => (r, σ))
  unfold M_yearOf
  refine at_iload_n (j := 0) hC rfl rfl dX11_yearOf_0 ?_
  refine at_bipush hC bi_100 dX11_yearOf_1 ?_
  refine at_idiv hC (by decide) dX11_yearOf_3 ?_
  exact at_iret (F := eqA ad) (ra := rI) hC dX11_yearOf_4 rfl (Nat.le_refl 0) (Nat.le_refl 0) rfl
theorem dX11_firstWedding_0 : decode cX11_firstWedding 0 = .ok (.iconst (-1), 1) := by decide +kernel
theorem dX11_firstWedding_1 : decode cX11_firstWedding 1 = .ok (.istore_n 2, 1) := by decide +kernel
theorem dX11_firstWedding_2 : decode cX11_firstWedding 2 = .ok (.iconst 0, 1) := by decide +kernel
theorem dX11_firstWedding_3 : decode cX11_firstWedding 3 = .ok (.istore_n 3, 1) := by decide +kernel
theorem dX11_firstWedding_4 : decode cX11_firstWedding 4 = .ok (.iload_n 3, 1) := by decide +kernel
theorem dX11_firstWedding_5 : decode cX11_firstWedding 5 = .ok (.aload_n 0, 1) := by decide +kernel
theorem dX11_firstWedding_6 : decode cX11_firstWedding 6 = .ok (.getfield 140, 3) := by decide +kernel
theorem dX11_firstWedding_9 : decode cX11_firstWedding 9 = .ok (.if_icmp .ge 76, 3) := by decide +kernel
theorem dX11_firstWedding_12 : decode cX11_firstWedding 12 = .ok (.aload_n 0, 1) := by decide +kernel
theorem dX11_firstWedding_13 : decode cX11_firstWedding 13 = .ok (.getfield 111, 3) := by decide +kernel
theorem dX11_firstWedding_16 : decode cX11_firstWedding 16 = .ok (.iload_n 3, 1) := by decide +kernel
theorem dX11_firstWedding_17 : decode cX11_firstWedding 17 = .ok (.baload, 1) := by decide +kernel
theorem dX11_firstWedding_18 : decode cX11_firstWedding 18 = .ok (.ifCond .eq 27, 3) := by decide +kernel
theorem dX11_firstWedding_21 : decode cX11_firstWedding 21 = .ok (.aload_n 0, 1) := by decide +kernel
theorem dX11_firstWedding_22 : decode cX11_firstWedding 22 = .ok (.getfield 24, 3) := by decide +kernel
theorem dX11_firstWedding_25 : decode cX11_firstWedding 25 = .ok (.iload_n 3, 1) := by decide +kernel
theorem dX11_firstWedding_26 : decode cX11_firstWedding 26 = .ok (.iaload, 1) := by decide +kernel
theorem dX11_firstWedding_27 : decode cX11_firstWedding 27 = .ok (.iconst 1, 1) := by decide +kernel
theorem dX11_firstWedding_28 : decode cX11_firstWedding 28 = .ok (.if_icmp .ne 17, 3) := by decide +kernel
theorem dX11_firstWedding_31 : decode cX11_firstWedding 31 = .ok (.aload_n 0, 1) := by decide +kernel
theorem dX11_firstWedding_32 : decode cX11_firstWedding 32 = .ok (.getfield 27, 3) := by decide +kernel
theorem dX11_firstWedding_35 : decode cX11_firstWedding 35 = .ok (.iload_n 3, 1) := by decide +kernel
theorem dX11_firstWedding_36 : decode cX11_firstWedding 36 = .ok (.iaload, 1) := by decide +kernel
theorem dX11_firstWedding_37 : decode cX11_firstWedding 37 = .ok (.iload_n 1, 1) := by decide +kernel
theorem dX11_firstWedding_38 : decode cX11_firstWedding 38 = .ok (.if_icmp .ne 7, 3) := by decide +kernel
theorem dX11_firstWedding_41 : decode cX11_firstWedding 41 = .ok (.iconst 1, 1) := by decide +kernel
theorem dX11_firstWedding_42 : decode cX11_firstWedding 42 = .ok (.goto 4, 3) := by decide +kernel
theorem dX11_firstWedding_45 : decode cX11_firstWedding 45 = .ok (.iconst 0, 1) := by decide +kernel
theorem dX11_firstWedding_46 : decode cX11_firstWedding 46 = .ok (.istore 4, 2) := by decide +kernel
theorem dX11_firstWedding_48 : decode cX11_firstWedding 48 = .ok (.iload 4, 2) := by decide +kernel
theorem dX11_firstWedding_50 : decode cX11_firstWedding 50 = .ok (.ifCond .eq 27, 3) := by decide +kernel
theorem dX11_firstWedding_53 : decode cX11_firstWedding 53 = .ok (.iload_n 2, 1) := by decide +kernel
theorem dX11_firstWedding_54 : decode cX11_firstWedding 54 = .ok (.iconst (-1), 1) := by decide +kernel
theorem dX11_firstWedding_55 : decode cX11_firstWedding 55 = .ok (.if_icmp .eq 18, 3) := by decide +kernel
theorem dX11_firstWedding_58 : decode cX11_firstWedding 58 = .ok (.aload_n 0, 1) := by decide +kernel
theorem dX11_firstWedding_59 : decode cX11_firstWedding 59 = .ok (.getfield 33, 3) := by decide +kernel
theorem dX11_firstWedding_62 : decode cX11_firstWedding 62 = .ok (.iload_n 3, 1) := by decide +kernel
theorem dX11_firstWedding_63 : decode cX11_firstWedding 63 = .ok (.iaload, 1) := by decide +kernel
theorem dX11_firstWedding_64 : decode cX11_firstWedding 64 = .ok (.aload_n 0, 1) := by decide +kernel
theorem dX11_firstWedding_65 : decode cX11_firstWedding 65 = .ok (.getfield 33, 3) := by decide +kernel
theorem dX11_firstWedding_68 : decode cX11_firstWedding 68 = .ok (.iload_n 2, 1) := by decide +kernel
theorem dX11_firstWedding_69 : decode cX11_firstWedding 69 = .ok (.iaload, 1) := by decide +kernel
theorem dX11_firstWedding_70 : decode cX11_firstWedding 70 = .ok (.if_icmp .ge 7, 3) := by decide +kernel
theorem dX11_firstWedding_73 : decode cX11_firstWedding 73 = .ok (.iload_n 3, 1) := by decide +kernel
theorem dX11_firstWedding_74 : decode cX11_firstWedding 74 = .ok (.goto 4, 3) := by decide +kernel
theorem dX11_firstWedding_77 : decode cX11_firstWedding 77 = .ok (.iload_n 2, 1) := by decide +kernel
theorem dX11_firstWedding_78 : decode cX11_firstWedding 78 = .ok (.istore_n 2, 1) := by decide +kernel
theorem dX11_firstWedding_79 : decode cX11_firstWedding 79 = .ok (.iinc 3 1, 3) := by decide +kernel
theorem dX11_firstWedding_82 : decode cX11_firstWedding 82 = .ok (.goto (-78), 3) := by decide +kernel
theorem dX11_firstWedding_85 : decode cX11_firstWedding 85 = .ok (.iload_n 2, 1) := by decide +kernel
theorem dX11_firstWedding_86 : decode cX11_firstWedding 86 = .ok (.ireturn, 1) := by decide +kernel
set_option maxRecDepth 100000 in
theorem t_M_firstWedding_J78 (hC : CX z ad x cX11_firstWedding RX11 5 (some .int)) (hR : x.2.2.1 = rmk 1 0 0) (σ : MS) (k_4 : Int32 → Int32 → Int32 → Option Int32) (hk_4 : ∀ (a1 : Int32) (a2 : Int32) (a3 : Int32), AT z x 5 (wM z τ) rI (eqA ad) 0 0 0 0 ad 4 [(0, .ref 0), (1, .int a1), (2, .int a2), (3, .int a3)] [] σ ((k_4 a1 a2 a3).map fun r => (r, σ))) (a1 : Int32) (a3 : Int32) (s0 : Int32) : AT z x 5 (wM z τ) rI (eqA ad) 0 0 0 0 ad 78 [(0, .ref 0), (1, .int a1), (3, .int a3)] [.int s0] σ ((M_firstWedding_J78 k_4 σ a1 a3 s0).map fun r => (r, σ)) := by
  unfold M_firstWedding_J78
  refine at_istore_n (lv' := [(2, .int s0), (0, .ref 0), (1, .int a1), (3, .int a3)]) hC rfl dX11_firstWedding_78 (by decide) rfl ?_
  refine at_iinc (j := 3) (v := a3 + 1) (lv' := [(3, .int (a3 + 1)), (2, .int s0), (0, .ref 0), (1, .int a1)]) hC dX11_firstWedding_79 rfl rfl (by decide) rfl ?_
  refine at_goto (tgt := 4) hC dX11_firstWedding_82 rfl ?_
  refine at_drop (lv' := [(0, .ref 0), (1, .int a1), (2, .int s0), (3, .int (a3 + 1))]) [2, 3, 1, 0] rfl ?_
  exact hk_4 a1 s0 (a3 + 1)
set_option maxRecDepth 100000 in
theorem t_M_firstWedding_J77 (hC : CX z ad x cX11_firstWedding RX11 5 (some .int)) (hR : x.2.2.1 = rmk 1 0 0) (σ : MS) (k_4 : Int32 → Int32 → Int32 → Option Int32) (hk_4 : ∀ (a1 : Int32) (a2 : Int32) (a3 : Int32), AT z x 5 (wM z τ) rI (eqA ad) 0 0 0 0 ad 4 [(0, .ref 0), (1, .int a1), (2, .int a2), (3, .int a3)] [] σ ((k_4 a1 a2 a3).map fun r => (r, σ))) (a1 : Int32) (a2 : Int32) (a3 : Int32) : AT z x 5 (wM z τ) rI (eqA ad) 0 0 0 0 ad 77 [(0, .ref 0), (1, .int a1), (2, .int a2), (3, .int a3)] [] σ ((M_firstWedding_J77 k_4 σ a1 a2 a3).map fun r => (r, σ)) := by
  unfold M_firstWedding_J77
  refine at_iload_n (j := 2) hC rfl rfl dX11_firstWedding_77 ?_
  refine at_drop (lv' := [(0, .ref 0), (1, .int a1), (3, .int a3)]) [0, 1, 3] rfl ?_
  exact t_M_firstWedding_J78 hC hR σ k_4 hk_4 a1 a3 a2
set_option maxRecDepth 100000 in
theorem t_M_firstWedding_J73 (hC : CX z ad x cX11_firstWedding RX11 5 (some .int)) (hR : x.2.2.1 = rmk 1 0 0) (σ : MS) (k_4 : Int32 → Int32 → Int32 → Option Int32) (hk_4 : ∀ (a1 : Int32) (a2 : Int32) (a3 : Int32), AT z x 5 (wM z τ) rI (eqA ad) 0 0 0 0 ad 4 [(0, .ref 0), (1, .int a1), (2, .int a2), (3, .int a3)] [] σ ((k_4 a1 a2 a3).map fun r => (r, σ))) (a1 : Int32) (a3 : Int32) : AT z x 5 (wM z τ) rI (eqA ad) 0 0 0 0 ad 73 [(0, .ref 0), (1, .int a1), (3, .int a3)] [] σ ((M_firstWedding_J73 k_4 σ a1 a3).map fun r => (r, σ)) := by
  unfold M_firstWedding_J73
  refine at_iload_n (j := 2) hC rfl rfl dX11_firstWedding_73 ?_
  refine at_goto (tgt := 78) hC dX11_firstWedding_74 rfl ?_
  exact t_M_firstWedding_J78 hC hR σ k_4 hk_4 a1 a3 a3
set_option maxRecDepth 100000 in
theorem t_M_firstWedding_J46 (hC : CX z ad x cX11_firstWedding RX11 5 (some .int)) (hR : x.2.2.1 = rmk 1 0 0) (σ : MS) (k_4 : Int32 → Int32 → Int32 → Option Int32) (hk_4 : ∀ (a1 : Int32) (a2 : Int32) (a3 : Int32), AT z x 5 (wM z τ) rI (eqA ad) 0 0 0 0 ad 4 [(0, .ref 0), (1, .int a1), (2, .int a2), (3, .int a3)] [] σ ((k_4 a1 a2 a3).map fun r => (r, σ))) (a1 : Int32) (a2 : Int32) (a3 : Int32) (s0 : Int32) : AT z x 5 (wM z τ) rI (eqA ad) 0 0 0 0 ad 46 [(0, .ref 0), (1, .int a1), (2, .int a2), (3, .int a3)] [.int s0] σ ((M_firstWedding_J46 k_4 σ a1 a2 a3 s0).map fun r => (r, σ)) := by
  unfold M_firstWedding_J46
  refine at_istore (lv' := [(4, .int s0), (0, .ref 0), (1, .int a1), (2, .int a2), (3, .int a3)]) hC dX11_firstWedding_46 (by decide) rfl ?_
  refine at_iload (j := 0) hC rfl dX11_firstWedding_48 ?_
  refine ap_if_eq (tgt := 77) hC dX11_firstWedding_50 rfl (fun _ => ?_) (fun _ => ?_)
  · refine at_drop (lv' := [(0, .ref 0), (1, .int a1), (2, .int a2), (3, .int a3)]) [1, 2, 3, 4] rfl ?_
    exact t_M_firstWedding_J77 hC hR σ k_4 hk_4 a1 a2 a3
  · refine at_iload_n (j := 3) hC rfl rfl dX11_firstWedding_53 ?_
    refine at_iconst hC ic_m1 dX11_firstWedding_54 ?_
    refine ap_icmp_eq (tgt := 73) hC dX11_firstWedding_55 rfl (fun _ => ?_) (fun _ => ?_)
    · refine at_drop (lv' := [(0, .ref 0), (1, .int a1), (3, .int a3)]) [1, 2, 4] rfl ?_
      exact t_M_firstWedding_J73 hC hR σ k_4 hk_4 a1 a3
    · refine at_aload_n (j := 1) hC rfl rfl dX11_firstWedding_58 ?_
      refine gf_X11_33 hC dX11_firstWedding_59 ?_
      refine at_iload_n (j := 4) hC rfl rfl dX11_firstWedding_62 ?_
      refine ap_iald hC 8 dX11_firstWedding_63 cl_8 (fun v2 => ?_)
      refine at_aload_n (j := 1) hC rfl rfl dX11_firstWedding_64 ?_
      refine gf_X11_33 hC dX11_firstWedding_65 ?_
      refine at_iload_n (j := 3) hC rfl rfl dX11_firstWedding_68 ?_
      refine ap_iald hC 8 dX11_firstWedding_69 cl_8 (fun v3 => ?_)
      refine ap_icmp_ge (tgt := 77) hC dX11_firstWedding_70 rfl (fun _ => ?_) (fun _ => ?_)
      · refine at_drop (lv' := [(0, .ref 0), (1, .int a1), (2, .int a2), (3, .int a3)]) [1, 2, 3, 4] rfl ?_
        exact t_M_firstWedding_J77 hC hR σ k_4 hk_4 a1 a2 a3
      · refine at_drop (lv' := [(0, .ref 0), (1, .int a1), (3, .int a3)]) [1, 2, 4] rfl ?_
        exact t_M_firstWedding_J73 hC hR σ k_4 hk_4 a1 a3
set_option maxRecDepth 100000 in
theorem t_M_firstWedding_J45 (hC : CX z ad x cX11_firstWedding RX11 5 (some .int)) (hR : x.2.2.1 = rmk 1 0 0) (σ : MS) (k_4 : Int32 → Int32 → Int32 → Option Int32) (hk_4 : ∀ (a1 : Int32) (a2 : Int32) (a3 : Int32), AT z x 5 (wM z τ) rI (eqA ad) 0 0 0 0 ad 4 [(0, .ref 0), (1, .int a1), (2, .int a2), (3, .int a3)] [] σ ((k_4 a1 a2 a3).map fun r => (r, σ))) (a1 : Int32) (a2 : Int32) (a3 : Int32) : AT z x 5 (wM z τ) rI (eqA ad) 0 0 0 0 ad 45 [(0, .ref 0), (1, .int a1), (2, .int a2), (3, .int a3)] [] σ ((M_firstWedding_J45 k_4 σ a1 a2 a3).map fun r => (r, σ)) := by
  unfold M_firstWedding_J45
  refine at_iconst hC ic_0 dX11_firstWedding_45 ?_
  exact t_M_firstWedding_J46 hC hR σ k_4 hk_4 a1 a2 a3 0
set_option maxRecDepth 100000 in
theorem t_M_firstWedding_L4 (hC : CX z ad x cX11_firstWedding RX11 5 (some .int)) (hR : x.2.2.1 = rmk 1 0 0) (σ : MS) (n : Nat) (a1 : Int32) (a2 : Int32) (a3 : Int32) : AT z x 5 (wM z τ) rI (eqA ad) 0 0 0 0 ad 4 [(0, .ref 0), (1, .int a1), (2, .int a2), (3, .int a3)] [] σ ((M_firstWedding_L4 n σ a1 a2 a3).map fun r => (r, σ)) := by
  revert a1 a2 a3
  show ∀ (a1 : Int32) (a2 : Int32) (a3 : Int32), AT z x 5 (wM z τ) rI (eqA ad) 0 0 0 0 ad 4 [(0, .ref 0), (1, .int a1), (2, .int a2), (3, .int a3)] [] σ ((M_firstWedding_L4_r σ n a1 a2 a3).map fun r => (r, σ))
  induction n with
  | zero => intro a1 a2 a3; exact ap_none
  | succ n hk_4 =>
    intro a1 a2 a3
    unfold M_firstWedding_L4_r
    refine at_iload_n (j := 3) hC rfl rfl dX11_firstWedding_4 ?_
    refine at_aload_n (j := 0) hC rfl rfl dX11_firstWedding_5 ?_
    refine gf_X11_140 hC dX11_firstWedding_6 ?_
    refine ap_icmp_ge (tgt := 85) hC dX11_firstWedding_9 rfl (fun _ => ?_) (fun _ => ?_)
    · refine at_iload_n (j := 2) hC rfl rfl dX11_firstWedding_85 ?_
      exact at_iret (F := eqA ad) (ra := rI) hC dX11_firstWedding_86 rfl (Nat.le_refl 0) (Nat.le_refl 0) rfl
    · refine at_aload_n (j := 0) hC rfl rfl dX11_firstWedding_12 ?_
      refine gf_X11_111 hC dX11_firstWedding_13 ?_
      refine at_iload_n (j := 3) hC rfl rfl dX11_firstWedding_16 ?_
      refine ap_zald hC 32 dX11_firstWedding_17 cl_32 (fun v1 => ?_)
      refine ap_if_eq (tgt := 45) hC dX11_firstWedding_18 rfl (fun _ => ?_) (fun _ => ?_)
      · exact t_M_firstWedding_J45 hC hR σ (M_firstWedding_L4_r σ n) hk_4 a1 a2 a3
      · refine at_aload_n (j := 0) hC rfl rfl dX11_firstWedding_21 ?_
        refine gf_X11_24 hC dX11_firstWedding_22 ?_
        refine at_iload_n (j := 3) hC rfl rfl dX11_firstWedding_25 ?_
        refine ap_iald hC 5 dX11_firstWedding_26 cl_5 (fun v4 => ?_)
        refine at_iconst hC ic_1 dX11_firstWedding_27 ?_
        refine ap_icmp_ne (tgt := 45) hC dX11_firstWedding_28 rfl (fun _ => ?_) (fun _ => ?_)
        · exact t_M_firstWedding_J45 hC hR σ (M_firstWedding_L4_r σ n) hk_4 a1 a2 a3
        · refine at_aload_n (j := 0) hC rfl rfl dX11_firstWedding_31 ?_
          refine gf_X11_27 hC dX11_firstWedding_32 ?_
          refine at_iload_n (j := 3) hC rfl rfl dX11_firstWedding_35 ?_
          refine ap_iald hC 6 dX11_firstWedding_36 cl_6 (fun v5 => ?_)
          refine at_iload_n (j := 1) hC rfl rfl dX11_firstWedding_37 ?_
          refine ap_icmp_ne (tgt := 45) hC dX11_firstWedding_38 rfl (fun _ => ?_) (fun _ => ?_)
          · exact t_M_firstWedding_J45 hC hR σ (M_firstWedding_L4_r σ n) hk_4 a1 a2 a3
          · refine at_iconst hC ic_1 dX11_firstWedding_41 ?_
            refine at_goto (tgt := 46) hC dX11_firstWedding_42 rfl ?_
            exact t_M_firstWedding_J46 hC hR σ (M_firstWedding_L4_r σ n) hk_4 a1 a2 a3 1
set_option maxRecDepth 100000 in
theorem c_M_firstWedding (σ : MS) (p0 : Int32) : Ct z (wM z τ) rI eqA yX11_firstWedding cX11_firstWedding 5 (some .int) 1 0 0 [.ref 0, .int p0] σ ((M_firstWedding σ p0).map fun r => (r, σ)) := by
  refine Ct.of (by decide) (Nat.le_of_ble_eq_true rfl) (fun ad x hC hR _ => ?_)
  show AT z x 5 (wM z τ) rI (eqA ad) 0 0 0 0 ad 0 [(0, .ref 0), (1, .int p0)] [] σ ((M_firstWedding σ p0).map fun r => (r, σ))
  unfold M_firstWedding
  refine at_iconst hC ic_m1 dX11_firstWedding_0 ?_
  refine at_istore_n (lv' := [(2, .int (-1)), (0, .ref 0), (1, .int p0)]) hC rfl dX11_firstWedding_1 (by decide) rfl ?_
  refine at_iconst hC ic_0 dX11_firstWedding_2 ?_
  refine at_istore_n (lv' := [(3, .int 0), (2, .int (-1)), (0, .ref 0), (1, .int p0)]) hC rfl dX11_firstWedding_3 (by decide) rfl ?_
  refine at_drop (lv' := [(0, .ref 0), (1, .int p0), (2, .int (-1)), (3, .int 0)]) [2, 3, 1, 0] rfl ?_
  exact t_M_firstWedding_L4 hC hR σ 100000 p0 (-1) 0
theorem dX11_taxOf_0 : decode cX11_taxOf 0 = .ok (.iconst 0, 1) := by decide +kernel
theorem dX11_taxOf_1 : decode cX11_taxOf 1 = .ok (.istore_n 3, 1) := by decide +kernel
theorem dX11_taxOf_2 : decode cX11_taxOf 2 = .ok (.aload_n 0, 1) := by decide +kernel
theorem dX11_taxOf_3 : decode cX11_taxOf 3 = .ok (.iload_n 1, 1) := by decide +kernel
theorem dX11_taxOf_4 : decode cX11_taxOf 4 = .ok (.invokevirtual 360, 3) := by decide +kernel
theorem dX11_taxOf_7 : decode cX11_taxOf 7 = .ok (.istore 4, 2) := by decide +kernel
theorem dX11_taxOf_9 : decode cX11_taxOf 9 = .ok (.iconst 0, 1) := by decide +kernel
theorem dX11_taxOf_10 : decode cX11_taxOf 10 = .ok (.istore 5, 2) := by decide +kernel
theorem dX11_taxOf_12 : decode cX11_taxOf 12 = .ok (.iload 5, 2) := by decide +kernel
theorem dX11_taxOf_14 : decode cX11_taxOf 14 = .ok (.aload_n 0, 1) := by decide +kernel
theorem dX11_taxOf_15 : decode cX11_taxOf 15 = .ok (.getfield 140, 3) := by decide +kernel
theorem dX11_taxOf_18 : decode cX11_taxOf 18 = .ok (.if_icmp .ge 121, 3) := by decide +kernel
theorem dX11_taxOf_21 : decode cX11_taxOf 21 = .ok (.aload_n 0, 1) := by decide +kernel
theorem dX11_taxOf_22 : decode cX11_taxOf 22 = .ok (.getfield 111, 3) := by decide +kernel
theorem dX11_taxOf_25 : decode cX11_taxOf 25 = .ok (.iload 5, 2) := by decide +kernel
theorem dX11_taxOf_27 : decode cX11_taxOf 27 = .ok (.baload, 1) := by decide +kernel
theorem dX11_taxOf_28 : decode cX11_taxOf 28 = .ok (.ifCond .eq 50, 3) := by decide +kernel
theorem dX11_taxOf_31 : decode cX11_taxOf 31 = .ok (.aload_n 0, 1) := by decide +kernel
theorem dX11_taxOf_32 : decode cX11_taxOf 32 = .ok (.getfield 24, 3) := by decide +kernel
theorem dX11_taxOf_35 : decode cX11_taxOf 35 = .ok (.iload 5, 2) := by decide +kernel
theorem dX11_taxOf_37 : decode cX11_taxOf 37 = .ok (.iaload, 1) := by decide +kernel
theorem dX11_taxOf_38 : decode cX11_taxOf 38 = .ok (.iconst 1, 1) := by decide +kernel
theorem dX11_taxOf_39 : decode cX11_taxOf 39 = .ok (.if_icmp .ne 39, 3) := by decide +kernel
theorem dX11_taxOf_42 : decode cX11_taxOf 42 = .ok (.aload_n 0, 1) := by decide +kernel
theorem dX11_taxOf_43 : decode cX11_taxOf 43 = .ok (.getfield 27, 3) := by decide +kernel
theorem dX11_taxOf_46 : decode cX11_taxOf 46 = .ok (.iload 5, 2) := by decide +kernel
theorem dX11_taxOf_48 : decode cX11_taxOf 48 = .ok (.iaload, 1) := by decide +kernel
theorem dX11_taxOf_49 : decode cX11_taxOf 49 = .ok (.iload_n 1, 1) := by decide +kernel
theorem dX11_taxOf_50 : decode cX11_taxOf 50 = .ok (.if_icmp .ne 28, 3) := by decide +kernel
theorem dX11_taxOf_53 : decode cX11_taxOf 53 = .ok (.iload 5, 2) := by decide +kernel
theorem dX11_taxOf_55 : decode cX11_taxOf 55 = .ok (.iload 4, 2) := by decide +kernel
theorem dX11_taxOf_57 : decode cX11_taxOf 57 = .ok (.if_icmp .eq 21, 3) := by decide +kernel
theorem dX11_taxOf_60 : decode cX11_taxOf 60 = .ok (.aload_n 0, 1) := by decide +kernel
theorem dX11_taxOf_61 : decode cX11_taxOf 61 = .ok (.getfield 33, 3) := by decide +kernel
theorem dX11_taxOf_64 : decode cX11_taxOf 64 = .ok (.iload 5, 2) := by decide +kernel
theorem dX11_taxOf_66 : decode cX11_taxOf 66 = .ok (.iaload, 1) := by decide +kernel
theorem dX11_taxOf_67 : decode cX11_taxOf 67 = .ok (.invokestatic 363, 3) := by decide +kernel
theorem dX11_taxOf_70 : decode cX11_taxOf 70 = .ok (.iload_n 2, 1) := by decide +kernel
theorem dX11_taxOf_71 : decode cX11_taxOf 71 = .ok (.if_icmp .ne 7, 3) := by decide +kernel
theorem dX11_taxOf_74 : decode cX11_taxOf 74 = .ok (.iconst 1, 1) := by decide +kernel
theorem dX11_taxOf_75 : decode cX11_taxOf 75 = .ok (.goto 4, 3) := by decide +kernel
theorem dX11_taxOf_78 : decode cX11_taxOf 78 = .ok (.iconst 0, 1) := by decide +kernel
theorem dX11_taxOf_79 : decode cX11_taxOf 79 = .ok (.istore 6, 2) := by decide +kernel
theorem dX11_taxOf_81 : decode cX11_taxOf 81 = .ok (.iload_n 3, 1) := by decide +kernel
theorem dX11_taxOf_82 : decode cX11_taxOf 82 = .ok (.iload 6, 2) := by decide +kernel
theorem dX11_taxOf_84 : decode cX11_taxOf 84 = .ok (.ifCond .eq 46, 3) := by decide +kernel
theorem dX11_taxOf_87 : decode cX11_taxOf 87 = .ok (.aload_n 0, 1) := by decide +kernel
theorem dX11_taxOf_88 : decode cX11_taxOf 88 = .ok (.iload_n 1, 1) := by decide +kernel
theorem dX11_taxOf_89 : decode cX11_taxOf 89 = .ok (.aload_n 0, 1) := by decide +kernel
theorem dX11_taxOf_90 : decode cX11_taxOf 90 = .ok (.getfield 33, 3) := by decide +kernel
theorem dX11_taxOf_93 : decode cX11_taxOf 93 = .ok (.iload 5, 2) := by decide +kernel
theorem dX11_taxOf_95 : decode cX11_taxOf 95 = .ok (.iaload, 1) := by decide +kernel
theorem dX11_taxOf_96 : decode cX11_taxOf 96 = .ok (.invokevirtual 162, 3) := by decide +kernel
theorem dX11_taxOf_99 : decode cX11_taxOf 99 = .ok (.ifCond .eq 31, 3) := by decide +kernel
theorem dX11_taxOf_102 : decode cX11_taxOf 102 = .ok (.aload_n 0, 1) := by decide +kernel
theorem dX11_taxOf_103 : decode cX11_taxOf 103 = .ok (.iconst 3, 1) := by decide +kernel
theorem dX11_taxOf_104 : decode cX11_taxOf 104 = .ok (.aload_n 0, 1) := by decide +kernel
theorem dX11_taxOf_105 : decode cX11_taxOf 105 = .ok (.iconst 3, 1) := by decide +kernel
theorem dX11_taxOf_106 : decode cX11_taxOf 106 = .ok (.iload_n 1, 1) := by decide +kernel
theorem dX11_taxOf_107 : decode cX11_taxOf 107 = .ok (.aload_n 0, 1) := by decide +kernel
theorem dX11_taxOf_108 : decode cX11_taxOf 108 = .ok (.getfield 33, 3) := by decide +kernel
theorem dX11_taxOf_111 : decode cX11_taxOf 111 = .ok (.iload 5, 2) := by decide +kernel
theorem dX11_taxOf_113 : decode cX11_taxOf 113 = .ok (.iaload, 1) := by decide +kernel
theorem dX11_taxOf_114 : decode cX11_taxOf 114 = .ok (.aload_n 0, 1) := by decide +kernel
theorem dX11_taxOf_115 : decode cX11_taxOf 115 = .ok (.getfield 33, 3) := by decide +kernel
theorem dX11_taxOf_118 : decode cX11_taxOf 118 = .ok (.iload 5, 2) := by decide +kernel
theorem dX11_taxOf_120 : decode cX11_taxOf 120 = .ok (.iaload, 1) := by decide +kernel
theorem dX11_taxOf_121 : decode cX11_taxOf 121 = .ok (.invokevirtual 193, 3) := by decide +kernel
theorem dX11_taxOf_124 : decode cX11_taxOf 124 = .ok (.invokevirtual 357, 3) := by decide +kernel
theorem dX11_taxOf_127 : decode cX11_taxOf 127 = .ok (.goto 4, 3) := by decide +kernel
theorem dX11_taxOf_130 : decode cX11_taxOf 130 = .ok (.iconst 0, 1) := by decide +kernel
theorem dX11_taxOf_131 : decode cX11_taxOf 131 = .ok (.iadd, 1) := by decide +kernel
theorem dX11_taxOf_132 : decode cX11_taxOf 132 = .ok (.istore_n 3, 1) := by decide +kernel
theorem dX11_taxOf_133 : decode cX11_taxOf 133 = .ok (.iinc 5 1, 3) := by decide +kernel
theorem dX11_taxOf_136 : decode cX11_taxOf 136 = .ok (.goto (-124), 3) := by decide +kernel
theorem dX11_taxOf_139 : decode cX11_taxOf 139 = .ok (.iload_n 3, 1) := by decide +kernel
theorem dX11_taxOf_140 : decode cX11_taxOf 140 = .ok (.ireturn, 1) := by decide +kernel
set_option maxRecDepth 100000 in
theorem t_M_taxOf_J131 (hC : CX z ad x cX11_taxOf RX11 7 (some .int)) (hR : x.2.2.1 = rmk 618 0 0) (k_12 : MS → Int32 → Int32 → Int32 → Int32 → Int32 → Option (Int32 × MS)) (hk_12 : ∀ (σ : MS) (a1 : Int32) (a2 : Int32) (a3 : Int32) (a4 : Int32) (a5 : Int32), AT z x 7 (wM z τ) rI (eqA ad) 0 0 0 0 ad 12 [(0, .ref 0), (1, .int a1), (2, .int a2), (3, .int a3), (4, .int a4), (5, .int a5)] [] σ (k_12 σ a1 a2 a3 a4 a5)) (σ : MS) (a1 : Int32) (a2 : Int32) (a4 : Int32) (a5 : Int32) (s0 : Int32) (s1 : Int32) : AT z x 7 (wM z τ) rI (eqA ad) 0 0 0 0 ad 131 [(0, .ref 0), (1, .int a1), (2, .int a2), (4, .int a4), (5, .int a5)] [.int s0, .int s1] σ (M_taxOf_J131 k_12 σ a1 a2 a4 a5 s0 s1) := by
  unfold M_taxOf_J131
  refine at_iadd hC dX11_taxOf_131 ?_
  refine at_istore_n (lv' := [(3, .int (s1 + s0)), (0, .ref 0), (1, .int a1), (2, .int a2), (4, .int a4), (5, .int a5)]) hC rfl dX11_taxOf_132 (by decide) rfl ?_
  refine at_iinc (j := 5) (v := a5 + 1) (lv' := [(5, .int (a5 + 1)), (3, .int (s1 + s0)), (0, .ref 0), (1, .int a1), (2, .int a2), (4, .int a4)]) hC dX11_taxOf_133 rfl rfl (by decide) rfl ?_
  refine at_goto (tgt := 12) hC dX11_taxOf_136 rfl ?_
  refine at_drop (lv' := [(0, .ref 0), (1, .int a1), (2, .int a2), (3, .int (s1 + s0)), (4, .int a4), (5, .int (a5 + 1))]) [2, 3, 4, 1, 5, 0] rfl ?_
  exact hk_12 σ a1 a2 (s1 + s0) a4 (a5 + 1)
set_option maxRecDepth 100000 in
theorem t_M_taxOf_J130 (hC : CX z ad x cX11_taxOf RX11 7 (some .int)) (hR : x.2.2.1 = rmk 618 0 0) (k_12 : MS → Int32 → Int32 → Int32 → Int32 → Int32 → Option (Int32 × MS)) (hk_12 : ∀ (σ : MS) (a1 : Int32) (a2 : Int32) (a3 : Int32) (a4 : Int32) (a5 : Int32), AT z x 7 (wM z τ) rI (eqA ad) 0 0 0 0 ad 12 [(0, .ref 0), (1, .int a1), (2, .int a2), (3, .int a3), (4, .int a4), (5, .int a5)] [] σ (k_12 σ a1 a2 a3 a4 a5)) (σ : MS) (a1 : Int32) (a2 : Int32) (a4 : Int32) (a5 : Int32) (s0 : Int32) : AT z x 7 (wM z τ) rI (eqA ad) 0 0 0 0 ad 130 [(0, .ref 0), (1, .int a1), (2, .int a2), (4, .int a4), (5, .int a5)] [.int s0] σ (M_taxOf_J130 k_12 σ a1 a2 a4 a5 s0) := by
  unfold M_taxOf_J130
  refine at_iconst hC ic_0 dX11_taxOf_130 ?_
  exact t_M_taxOf_J131 hC hR k_12 hk_12 σ a1 a2 a4 a5 0 s0
set_option maxRecDepth 100000 in
theorem t_M_taxOf_J79 (hC : CX z ad x cX11_taxOf RX11 7 (some .int)) (hR : x.2.2.1 = rmk 618 0 0) (k_12 : MS → Int32 → Int32 → Int32 → Int32 → Int32 → Option (Int32 × MS)) (hk_12 : ∀ (σ : MS) (a1 : Int32) (a2 : Int32) (a3 : Int32) (a4 : Int32) (a5 : Int32), AT z x 7 (wM z τ) rI (eqA ad) 0 0 0 0 ad 12 [(0, .ref 0), (1, .int a1), (2, .int a2), (3, .int a3), (4, .int a4), (5, .int a5)] [] σ (k_12 σ a1 a2 a3 a4 a5)) (σ : MS) (a1 : Int32) (a2 : Int32) (a3 : Int32) (a4 : Int32) (a5 : Int32) (s0 : Int32) : AT z x 7 (wM z τ) rI (eqA ad) 0 0 0 0 ad 79 [(0, .ref 0), (1, .int a1), (2, .int a2), (3, .int a3), (4, .int a4), (5, .int a5)] [.int s0] σ (M_taxOf_J79 k_12 σ a1 a2 a3 a4 a5 s0) := by
  unfold M_taxOf_J79
  refine at_istore (lv' := [(6, .int s0), (0, .ref 0), (1, .int a1), (2, .int a2), (3, .int a3), (4, .int a4), (5, .int a5)]) hC dX11_taxOf_79 (by decide) rfl ?_
  refine at_iload_n (j := 4) hC rfl rfl dX11_taxOf_81 ?_
  refine at_iload (j := 0) hC rfl dX11_taxOf_82 ?_
  refine at_if_eq (tgt := 130) hC dX11_taxOf_84 rfl (fun _ => ?_) (fun _ => ?_)
  · refine at_drop (lv' := [(0, .ref 0), (1, .int a1), (2, .int a2), (4, .int a4), (5, .int a5)]) [1, 2, 3, 5, 6] rfl ?_
    exact t_M_taxOf_J130 hC hR k_12 hk_12 σ a1 a2 a4 a5 a3
  · refine at_aload_n (j := 1) hC rfl rfl dX11_taxOf_87 ?_
    refine at_iload_n (j := 2) hC rfl rfl dX11_taxOf_88 ?_
    refine at_aload_n (j := 1) hC rfl rfl dX11_taxOf_89 ?_
    refine gf_X11_33 hC dX11_taxOf_90 ?_
    refine at_iload (j := 6) hC rfl dX11_taxOf_93 ?_
    refine at_iald hC 8 dX11_taxOf_95 cl_8 (fun v3 => ?_)
    refine at_callVpI hC hR lk_X11_162 (c_M_isMember σ a1 v3) dX11_taxOf_96 recX11 rfl rfl ⟨by decide, by decide⟩ (Nat.le_of_ble_eq_true rfl) ⟨Nat.le_refl 0, Nat.le_refl 0⟩ (fun r4 _ => ?_)
    refine at_if_eq (tgt := 130) hC dX11_taxOf_99 rfl (fun _ => ?_) (fun _ => ?_)
    · refine at_drop (lv' := [(0, .ref 0), (1, .int a1), (2, .int a2), (4, .int a4), (5, .int a5)]) [1, 2, 3, 5, 6] rfl ?_
      exact t_M_taxOf_J130 hC hR k_12 hk_12 σ a1 a2 a4 a5 a3
    · refine at_aload_n (j := 1) hC rfl rfl dX11_taxOf_102 ?_
      refine at_iconst hC ic_3 dX11_taxOf_103 ?_
      refine at_aload_n (j := 1) hC rfl rfl dX11_taxOf_104 ?_
      refine at_iconst hC ic_3 dX11_taxOf_105 ?_
      refine at_iload_n (j := 2) hC rfl rfl dX11_taxOf_106 ?_
      refine at_aload_n (j := 1) hC rfl rfl dX11_taxOf_107 ?_
      refine gf_X11_33 hC dX11_taxOf_108 ?_
      refine at_iload (j := 6) hC rfl dX11_taxOf_111 ?_
      refine at_iald hC 8 dX11_taxOf_113 cl_8 (fun v5 => ?_)
      refine at_aload_n (j := 1) hC rfl rfl dX11_taxOf_114 ?_
      refine gf_X11_33 hC dX11_taxOf_115 ?_
      refine at_iload (j := 6) hC rfl dX11_taxOf_118 ?_
      refine at_iald hC 8 dX11_taxOf_120 cl_8 (fun v6 => ?_)
      refine at_callVI hC hR lk_X11_193 (c_M_ruled σ 3 a1 v5 v6) dX11_taxOf_121 recX11 rfl rfl ⟨by decide, by decide⟩ (Nat.le_of_ble_eq_true rfl) ⟨Nat.le_refl 0, Nat.le_refl 0⟩ (fun r7 r7s _ => ?_)
      refine at_callVpI hC hR lk_X11_357 (c_M_stepped r7s 3 r7) dX11_taxOf_124 recX11 rfl rfl ⟨by decide, by decide⟩ (Nat.le_of_ble_eq_true rfl) ⟨Nat.le_refl 0, Nat.le_refl 0⟩ (fun r8 _ => ?_)
      refine at_goto (tgt := 131) hC dX11_taxOf_127 rfl ?_
      refine at_drop (lv' := [(0, .ref 0), (1, .int a1), (2, .int a2), (4, .int a4), (5, .int a5)]) [1, 2, 3, 5, 6] rfl ?_
      exact t_M_taxOf_J131 hC hR k_12 hk_12 r7s a1 a2 a4 a5 r8 a3
set_option maxRecDepth 100000 in
theorem t_M_taxOf_J78 (hC : CX z ad x cX11_taxOf RX11 7 (some .int)) (hR : x.2.2.1 = rmk 618 0 0) (k_12 : MS → Int32 → Int32 → Int32 → Int32 → Int32 → Option (Int32 × MS)) (hk_12 : ∀ (σ : MS) (a1 : Int32) (a2 : Int32) (a3 : Int32) (a4 : Int32) (a5 : Int32), AT z x 7 (wM z τ) rI (eqA ad) 0 0 0 0 ad 12 [(0, .ref 0), (1, .int a1), (2, .int a2), (3, .int a3), (4, .int a4), (5, .int a5)] [] σ (k_12 σ a1 a2 a3 a4 a5)) (σ : MS) (a1 : Int32) (a2 : Int32) (a3 : Int32) (a4 : Int32) (a5 : Int32) : AT z x 7 (wM z τ) rI (eqA ad) 0 0 0 0 ad 78 [(0, .ref 0), (1, .int a1), (2, .int a2), (3, .int a3), (4, .int a4), (5, .int a5)] [] σ (M_taxOf_J78 k_12 σ a1 a2 a3 a4 a5) := by
  unfold M_taxOf_J78
  refine at_iconst hC ic_0 dX11_taxOf_78 ?_
  exact t_M_taxOf_J79 hC hR k_12 hk_12 σ a1 a2 a3 a4 a5 0
set_option maxRecDepth 100000 in
theorem t_M_taxOf_L12 (hC : CX z ad x cX11_taxOf RX11 7 (some .int)) (hR : x.2.2.1 = rmk 618 0 0) (n : Nat) (σ : MS) (a1 : Int32) (a2 : Int32) (a3 : Int32) (a4 : Int32) (a5 : Int32) : AT z x 7 (wM z τ) rI (eqA ad) 0 0 0 0 ad 12 [(0, .ref 0), (1, .int a1), (2, .int a2), (3, .int a3), (4, .int a4), (5, .int a5)] [] σ (M_taxOf_L12 n σ a1 a2 a3 a4 a5) := by
  revert σ a1 a2 a3 a4 a5
  show ∀ (σ : MS) (a1 : Int32) (a2 : Int32) (a3 : Int32) (a4 : Int32) (a5 : Int32), AT z x 7 (wM z τ) rI (eqA ad) 0 0 0 0 ad 12 [(0, .ref 0), (1, .int a1), (2, .int a2), (3, .int a3), (4, .int a4), (5, .int a5)] [] σ (M_taxOf_L12_r n σ a1 a2 a3 a4 a5)
  induction n with
  | zero => intro σ a1 a2 a3 a4 a5; exact at_none
  | succ n hk_12 =>
    intro σ a1 a2 a3 a4 a5
    unfold M_taxOf_L12_r
    refine at_iload (j := 5) hC rfl dX11_taxOf_12 ?_
    refine at_aload_n (j := 0) hC rfl rfl dX11_taxOf_14 ?_
    refine gf_X11_140 hC dX11_taxOf_15 ?_
    refine at_icmp_ge (tgt := 139) hC dX11_taxOf_18 rfl (fun _ => ?_) (fun _ => ?_)
    · refine at_iload_n (j := 3) hC rfl rfl dX11_taxOf_139 ?_
      exact at_iret (F := eqA ad) (ra := rI) hC dX11_taxOf_140 rfl (Nat.le_refl 0) (Nat.le_refl 0) rfl
    · refine at_aload_n (j := 0) hC rfl rfl dX11_taxOf_21 ?_
      refine gf_X11_111 hC dX11_taxOf_22 ?_
      refine at_iload (j := 5) hC rfl dX11_taxOf_25 ?_
      refine at_zald hC 32 dX11_taxOf_27 cl_32 (fun v2 => ?_)
      refine at_if_eq (tgt := 78) hC dX11_taxOf_28 rfl (fun _ => ?_) (fun _ => ?_)
      · exact t_M_taxOf_J78 hC hR (M_taxOf_L12_r n) hk_12 σ a1 a2 a3 a4 a5
      · refine at_aload_n (j := 0) hC rfl rfl dX11_taxOf_31 ?_
        refine gf_X11_24 hC dX11_taxOf_32 ?_
        refine at_iload (j := 5) hC rfl dX11_taxOf_35 ?_
        refine at_iald hC 5 dX11_taxOf_37 cl_5 (fun v9 => ?_)
        refine at_iconst hC ic_1 dX11_taxOf_38 ?_
        refine at_icmp_ne (tgt := 78) hC dX11_taxOf_39 rfl (fun _ => ?_) (fun _ => ?_)
        · exact t_M_taxOf_J78 hC hR (M_taxOf_L12_r n) hk_12 σ a1 a2 a3 a4 a5
        · refine at_aload_n (j := 0) hC rfl rfl dX11_taxOf_42 ?_
          refine gf_X11_27 hC dX11_taxOf_43 ?_
          refine at_iload (j := 5) hC rfl dX11_taxOf_46 ?_
          refine at_iald hC 6 dX11_taxOf_48 cl_6 (fun v10 => ?_)
          refine at_iload_n (j := 1) hC rfl rfl dX11_taxOf_49 ?_
          refine at_icmp_ne (tgt := 78) hC dX11_taxOf_50 rfl (fun _ => ?_) (fun _ => ?_)
          · exact t_M_taxOf_J78 hC hR (M_taxOf_L12_r n) hk_12 σ a1 a2 a3 a4 a5
          · refine at_iload (j := 5) hC rfl dX11_taxOf_53 ?_
            refine at_iload (j := 4) hC rfl dX11_taxOf_55 ?_
            refine at_icmp_eq (tgt := 78) hC dX11_taxOf_57 rfl (fun _ => ?_) (fun _ => ?_)
            · exact t_M_taxOf_J78 hC hR (M_taxOf_L12_r n) hk_12 σ a1 a2 a3 a4 a5
            · refine at_aload_n (j := 0) hC rfl rfl dX11_taxOf_60 ?_
              refine gf_X11_33 hC dX11_taxOf_61 ?_
              refine at_iload (j := 5) hC rfl dX11_taxOf_64 ?_
              refine at_iald hC 8 dX11_taxOf_66 cl_8 (fun v11 => ?_)
              refine at_callSpI hC hR lk_X11_363 (c_M_yearOf σ v11) dX11_taxOf_67 rfl rfl ⟨by decide, by decide⟩ (Nat.le_of_ble_eq_true rfl) ⟨Nat.le_refl 0, Nat.le_refl 0⟩ (fun r12 _ => ?_)
              refine at_iload_n (j := 2) hC rfl rfl dX11_taxOf_70 ?_
              refine at_icmp_ne (tgt := 78) hC dX11_taxOf_71 rfl (fun _ => ?_) (fun _ => ?_)
              · exact t_M_taxOf_J78 hC hR (M_taxOf_L12_r n) hk_12 σ a1 a2 a3 a4 a5
              · refine at_iconst hC ic_1 dX11_taxOf_74 ?_
                refine at_goto (tgt := 79) hC dX11_taxOf_75 rfl ?_
                exact t_M_taxOf_J79 hC hR (M_taxOf_L12_r n) hk_12 σ a1 a2 a3 a4 a5 1
set_option maxRecDepth 100000 in
theorem c_M_taxOf (σ : MS) (p0 : Int32) (p1 : Int32) : Ct z (wM z τ) rI eqA yX11_taxOf cX11_taxOf 7 (some .int) 618 0 0 [.ref 0, .int p0, .int p1] σ (M_taxOf σ p0 p1) := by
  refine Ct.of (by decide) (Nat.le_of_ble_eq_true rfl) (fun ad x hC hR _ => ?_)
  show AT z x 7 (wM z τ) rI (eqA ad) 0 0 0 0 ad 0 [(0, .ref 0), (1, .int p0), (2, .int p1)] [] σ (M_taxOf σ p0 p1)
  unfold M_taxOf
  refine at_iconst hC ic_0 dX11_taxOf_0 ?_
  refine at_istore_n (lv' := [(3, .int 0), (0, .ref 0), (1, .int p0), (2, .int p1)]) hC rfl dX11_taxOf_1 (by decide) rfl ?_
  refine at_aload_n (j := 1) hC rfl rfl dX11_taxOf_2 ?_
  refine at_iload_n (j := 2) hC rfl rfl dX11_taxOf_3 ?_
  refine at_callVpI hC hR lk_X11_360 (c_M_firstWedding σ p0) dX11_taxOf_4 recX11 rfl rfl ⟨by decide, by decide⟩ (Nat.le_of_ble_eq_true rfl) ⟨Nat.le_refl 0, Nat.le_refl 0⟩ (fun r1 _ => ?_)
  refine at_istore (lv' := [(4, .int r1), (3, .int 0), (0, .ref 0), (1, .int p0), (2, .int p1)]) hC dX11_taxOf_7 (by decide) rfl ?_
  refine at_iconst hC ic_0 dX11_taxOf_9 ?_
  refine at_istore (lv' := [(5, .int 0), (4, .int r1), (3, .int 0), (0, .ref 0), (1, .int p0), (2, .int p1)]) hC dX11_taxOf_10 (by decide) rfl ?_
  refine at_drop (lv' := [(0, .ref 0), (1, .int p0), (2, .int p1), (3, .int 0), (4, .int r1), (5, .int 0)]) [3, 4, 5, 2, 1, 0] rfl ?_
  exact t_M_taxOf_L12 hC hR 100000 σ p0 p1 0 r1 0
end G
