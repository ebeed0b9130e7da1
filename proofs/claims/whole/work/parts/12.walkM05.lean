section G
variable {z : ZZ} {x : XX} {ad : Nat → Nat} {τ : XS}
theorem dX11_isForce_0 : decode cX11_isForce 0 = .ok (.aload_n 0, 1) := by decide +kernel
theorem dX11_isForce_1 : decode cX11_isForce 1 = .ok (.getfield 42, 3) := by decide +kernel
theorem dX11_isForce_4 : decode cX11_isForce 4 = .ok (.iload_n 1, 1) := by decide +kernel
theorem dX11_isForce_5 : decode cX11_isForce 5 = .ok (.iaload, 1) := by decide +kernel
theorem dX11_isForce_6 : decode cX11_isForce 6 = .ok (.iload_n 3, 1) := by decide +kernel
theorem dX11_isForce_7 : decode cX11_isForce 7 = .ok (.if_icmp .gt 22, 3) := by decide +kernel
theorem dX11_isForce_10 : decode cX11_isForce 10 = .ok (.aload_n 0, 1) := by decide +kernel
theorem dX11_isForce_11 : decode cX11_isForce 11 = .ok (.getfield 55, 3) := by decide +kernel
theorem dX11_isForce_14 : decode cX11_isForce 14 = .ok (.bipush 8, 2) := by decide +kernel
theorem dX11_isForce_16 : decode cX11_isForce 16 = .ok (.iload_n 1, 1) := by decide +kernel
theorem dX11_isForce_17 : decode cX11_isForce 17 = .ok (.imul, 1) := by decide +kernel
theorem dX11_isForce_18 : decode cX11_isForce 18 = .ok (.iload_n 2, 1) := by decide +kernel
theorem dX11_isForce_19 : decode cX11_isForce 19 = .ok (.iadd, 1) := by decide +kernel
theorem dX11_isForce_20 : decode cX11_isForce 20 = .ok (.iaload, 1) := by decide +kernel
theorem dX11_isForce_21 : decode cX11_isForce 21 = .ok (.iload_n 3, 1) := by decide +kernel
theorem dX11_isForce_22 : decode cX11_isForce 22 = .ok (.if_icmp .le 7, 3) := by decide +kernel
theorem dX11_isForce_25 : decode cX11_isForce 25 = .ok (.iconst 1, 1) := by decide +kernel
theorem dX11_isForce_26 : decode cX11_isForce 26 = .ok (.goto 4, 3) := by decide +kernel
theorem dX11_isForce_29 : decode cX11_isForce 29 = .ok (.iconst 0, 1) := by decide +kernel
theorem dX11_isForce_30 : decode cX11_isForce 30 = .ok (.ireturn, 1) := by decide +kernel
set_option maxRecDepth 100000 in
theorem c_M_isForce (σ : MS) (p0 : Int32) (p1 : Int32) (p2 : Int32) : Ct z (wM z τ) rI eqA yX11_isForce cX11_isForce 4 (some .boolean) 1 0 0 [.ref 0, .int p0, .int p1, .int p2] σ ((M_isForce σ p0 p1 p2).map fun r => (r, σ)) := by
  refine Ct.of (by decide) (Nat.le_of_ble_eq_true rfl) (fun ad x hC hR _ => ?_)
  show AT z x 4 (wM z τ) rI (eqA ad) 0 0 0 0 ad 0 [(0, .ref 0), (1, .int p0), (2, .int p1), (3, .int p2)] [] σ ((M_isForce σ p0 p1 p2).map fun r => (r, σ))
  unfold M_isForce
  refine at_aload_n (j := 0) hC rfl rfl dX11_isForce_0 ?_
  refine gf_X11_42 hC dX11_isForce_1 ?_
  refine at_iload_n (j := 1) hC rfl rfl dX11_isForce_4 ?_
  refine ap_iald hC 11 dX11_isForce_5 cl_11 (fun v1 => ?_)
  refine at_iload_n (j := 3) hC rfl rfl dX11_isForce_6 ?_
  refine ap_icmp_gt (tgt := 29) hC dX11_isForce_7 rfl (fun _ => ?_) (fun _ => ?_)
  · refine at_iconst hC ic_0 dX11_isForce_29 ?_
    exact at_zret (F := eqA ad) (ra := rI) hC nb0 dX11_isForce_30 rfl (Nat.le_refl 0) (Nat.le_refl 0) rfl
  · refine at_aload_n (j := 0) hC rfl rfl dX11_isForce_10 ?_
    refine gf_X11_55 hC dX11_isForce_11 ?_
    refine at_bipush hC bi_8 dX11_isForce_14 ?_
    refine at_iload_n (j := 1) hC rfl rfl dX11_isForce_16 ?_
    refine at_imul hC dX11_isForce_17 ?_
    refine at_iload_n (j := 2) hC rfl rfl dX11_isForce_18 ?_
    refine at_iadd hC dX11_isForce_19 ?_
    refine ap_iald hC 15 dX11_isForce_20 cl_15 (fun v2 => ?_)
    refine at_iload_n (j := 3) hC rfl rfl dX11_isForce_21 ?_
    refine ap_icmp_le (tgt := 29) hC dX11_isForce_22 rfl (fun _ => ?_) (fun _ => ?_)
    · refine at_iconst hC ic_0 dX11_isForce_29 ?_
      exact at_zret (F := eqA ad) (ra := rI) hC nb0 dX11_isForce_30 rfl (Nat.le_refl 0) (Nat.le_refl 0) rfl
    · refine at_iconst hC ic_1 dX11_isForce_25 ?_
      refine at_goto (tgt := 30) hC dX11_isForce_26 rfl ?_
      exact at_zret (F := eqA ad) (ra := rI) hC nb1 dX11_isForce_30 rfl (Nat.le_refl 0) (Nat.le_refl 0) rfl
theorem dX11_byteAt_0 : decode cX11_byteAt 0 = .ok (.aload_n 0, 1) := by decide +kernel
theorem dX11_byteAt_1 : decode cX11_byteAt 1 = .ok (.getfield 229, 3) := by decide +kernel
theorem dX11_byteAt_4 : decode cX11_byteAt 4 = .ok (.aload_n 0, 1) := by decide +kernel
theorem dX11_byteAt_5 : decode cX11_byteAt 5 = .ok (.getfield 67, 3) := by decide +kernel
theorem dX11_byteAt_8 : decode cX11_byteAt 8 = .ok (.aload_n 0, 1) := by decide +kernel
theorem dX11_byteAt_9 : decode cX11_byteAt 9 = .ok (.getfield 232, 3) := by decide +kernel
theorem dX11_byteAt_12 : decode cX11_byteAt 12 = .ok (.iaload, 1) := by decide +kernel
theorem dX11_byteAt_13 : decode cX11_byteAt 13 = .ok (.if_icmp .ge 24, 3) := by decide +kernel
theorem dX11_byteAt_16 : decode cX11_byteAt 16 = .ok (.aload_n 0, 1) := by decide +kernel
theorem dX11_byteAt_17 : decode cX11_byteAt 17 = .ok (.getfield 58, 3) := by decide +kernel
theorem dX11_byteAt_20 : decode cX11_byteAt 20 = .ok (.sipush 200, 3) := by decide +kernel
theorem dX11_byteAt_23 : decode cX11_byteAt 23 = .ok (.aload_n 0, 1) := by decide +kernel
theorem dX11_byteAt_24 : decode cX11_byteAt 24 = .ok (.getfield 232, 3) := by decide +kernel
theorem dX11_byteAt_27 : decode cX11_byteAt 27 = .ok (.imul, 1) := by decide +kernel
theorem dX11_byteAt_28 : decode cX11_byteAt 28 = .ok (.aload_n 0, 1) := by decide +kernel
theorem dX11_byteAt_29 : decode cX11_byteAt 29 = .ok (.getfield 229, 3) := by decide +kernel
theorem dX11_byteAt_32 : decode cX11_byteAt 32 = .ok (.iadd, 1) := by decide +kernel
theorem dX11_byteAt_33 : decode cX11_byteAt 33 = .ok (.iaload, 1) := by decide +kernel
theorem dX11_byteAt_34 : decode cX11_byteAt 34 = .ok (.goto 4, 3) := by decide +kernel
theorem dX11_byteAt_37 : decode cX11_byteAt 37 = .ok (.iconst (-1), 1) := by decide +kernel
theorem dX11_byteAt_38 : decode cX11_byteAt 38 = .ok (.ireturn, 1) := by decide +kernel
set_option maxRecDepth 100000 in
theorem c_M_byteAt (σ : MS) : Ct z (wM z τ) rI eqA yX11_byteAt cX11_byteAt 1 (some .int) 1 0 0 [.ref 0] σ ((M_byteAt σ).map fun r => (r, σ)) := by
  refine Ct.of (by decide) (Nat.le_of_ble_eq_true rfl) (fun ad x hC hR _ => ?_)
  show AT z x 1 (wM z τ) rI (eqA ad) 0 0 0 0 ad 0 [(0, .ref 0)] [] σ ((M_byteAt σ).map fun r => (r, σ))
  unfold M_byteAt
  refine at_aload_n (j := 0) hC rfl rfl dX11_byteAt_0 ?_
  refine gf_X11_229 hC dX11_byteAt_1 ?_
  refine at_aload_n (j := 0) hC rfl rfl dX11_byteAt_4 ?_
  refine gf_X11_67 hC dX11_byteAt_5 ?_
  refine at_aload_n (j := 0) hC rfl rfl dX11_byteAt_8 ?_
  refine gf_X11_232 hC dX11_byteAt_9 ?_
  refine ap_iald hC 19 dX11_byteAt_12 cl_19 (fun v1 => ?_)
  refine ap_icmp_ge (tgt := 37) hC dX11_byteAt_13 rfl (fun _ => ?_) (fun _ => ?_)
  · refine at_iconst hC ic_m1 dX11_byteAt_37 ?_
    exact at_iret (F := eqA ad) (ra := rI) hC dX11_byteAt_38 rfl (Nat.le_refl 0) (Nat.le_refl 0) rfl
  · refine at_aload_n (j := 0) hC rfl rfl dX11_byteAt_16 ?_
    refine gf_X11_58 hC dX11_byteAt_17 ?_
    refine at_sipush hC si_200 dX11_byteAt_20 ?_
    refine at_aload_n (j := 0) hC rfl rfl dX11_byteAt_23 ?_
    refine gf_X11_232 hC dX11_byteAt_24 ?_
    refine at_imul hC dX11_byteAt_27 ?_
    refine at_aload_n (j := 0) hC rfl rfl dX11_byteAt_28 ?_
    refine gf_X11_229 hC dX11_byteAt_29 ?_
    refine at_iadd hC dX11_byteAt_32 ?_
    refine ap_iald hC 16 dX11_byteAt_33 cl_16 (fun v2 => ?_)
    refine at_goto (tgt := 38) hC dX11_byteAt_34 rfl ?_
    exact at_iret (F := eqA ad) (ra := rI) hC dX11_byteAt_38 rfl (Nat.le_refl 0) (Nat.le_refl 0) rfl
theorem dX11_isDigit_0 : decode cX11_isDigit 0 = .ok (.aload_n 0, 1) := by decide +kernel
theorem dX11_isDigit_1 : decode cX11_isDigit 1 = .ok (.invokevirtual 239, 3) := by decide +kernel
theorem dX11_isDigit_4 : decode cX11_isDigit 4 = .ok (.bipush 48, 2) := by decide +kernel
theorem dX11_isDigit_6 : decode cX11_isDigit 6 = .ok (.bipush 57, 2) := by decide +kernel
theorem dX11_isDigit_8 : decode cX11_isDigit 8 = .ok (.invokestatic 129, 3) := by decide +kernel
theorem dX11_isDigit_11 : decode cX11_isDigit 11 = .ok (.ireturn, 1) := by decide +kernel
set_option maxRecDepth 100000 in
theorem c_M_isDigit (σ : MS) : Ct z (wM z τ) rI eqA yX11_isDigit cX11_isDigit 1 (some .boolean) 2 0 0 [.ref 0] σ ((M_isDigit σ).map fun r => (r, σ)) := by
  refine Ct.of (by decide) (Nat.le_of_ble_eq_true rfl) (fun ad x hC hR _ => ?_)
  show AT z x 1 (wM z τ) rI (eqA ad) 0 0 0 0 ad 0 [(0, .ref 0)] [] σ ((M_isDigit σ).map fun r => (r, σ))
  unfold M_isDigit
  refine at_aload_n (j := 0) hC rfl rfl dX11_isDigit_0 ?_
  refine ap_callVI hC hR lk_X11_239 (c_M_byteAt σ) dX11_isDigit_1 recX11 rfl rfl ⟨by decide, by decide⟩ (Nat.le_of_ble_eq_true rfl) ⟨Nat.le_refl 0, Nat.le_refl 0⟩ (fun r1 _ => ?_)
  refine at_bipush hC bi_48 dX11_isDigit_4 ?_
  refine at_bipush hC bi_57 dX11_isDigit_6 ?_
  refine ap_callSI hC hR lk_X11_129 (c_M_in σ r1 48 57) dX11_isDigit_8 rfl rfl ⟨by decide, by decide⟩ (Nat.le_of_ble_eq_true rfl) ⟨Nat.le_refl 0, Nat.le_refl 0⟩ (fun r2 _ => ?_)
  refine ap_bz (fun hb => ?_)
  exact at_zret (F := eqA ad) (ra := rI) hC (nbz hb) dX11_isDigit_11 rfl (Nat.le_refl 0) (Nat.le_refl 0) rfl
theorem dX11_number_0 : decode cX11_number 0 = .ok (.aload_n 0, 1) := by decide +kernel
theorem dX11_number_1 : decode cX11_number 1 = .ok (.invokevirtual 239, 3) := by decide +kernel
theorem dX11_number_4 : decode cX11_number 4 = .ok (.bipush 48, 2) := by decide +kernel
theorem dX11_number_6 : decode cX11_number 6 = .ok (.isub, 1) := by decide +kernel
theorem dX11_number_7 : decode cX11_number 7 = .ok (.istore_n 1, 1) := by decide +kernel
theorem dX11_number_8 : decode cX11_number 8 = .ok (.aload_n 0, 1) := by decide +kernel
theorem dX11_number_9 : decode cX11_number 9 = .ok (.dup, 1) := by decide +kernel
theorem dX11_number_10 : decode cX11_number 10 = .ok (.getfield 229, 3) := by decide +kernel
theorem dX11_number_13 : decode cX11_number 13 = .ok (.iconst 1, 1) := by decide +kernel
theorem dX11_number_14 : decode cX11_number 14 = .ok (.iadd, 1) := by decide +kernel
theorem dX11_number_15 : decode cX11_number 15 = .ok (.putfield 229, 3) := by decide +kernel
theorem dX11_number_18 : decode cX11_number 18 = .ok (.iconst 1, 1) := by decide +kernel
theorem dX11_number_19 : decode cX11_number 19 = .ok (.istore_n 2, 1) := by decide +kernel
theorem dX11_number_20 : decode cX11_number 20 = .ok (.iload_n 2, 1) := by decide +kernel
theorem dX11_number_21 : decode cX11_number 21 = .ok (.iconst 4, 1) := by decide +kernel
theorem dX11_number_22 : decode cX11_number 22 = .ok (.if_icmp .ge 43, 3) := by decide +kernel
theorem dX11_number_25 : decode cX11_number 25 = .ok (.iload_n 1, 1) := by decide +kernel
theorem dX11_number_26 : decode cX11_number 26 = .ok (.ifCond .le 39, 3) := by decide +kernel
theorem dX11_number_29 : decode cX11_number 29 = .ok (.aload_n 0, 1) := by decide +kernel
theorem dX11_number_30 : decode cX11_number 30 = .ok (.invokevirtual 286, 3) := by decide +kernel
theorem dX11_number_33 : decode cX11_number 33 = .ok (.ifCond .eq 32, 3) := by decide +kernel
theorem dX11_number_36 : decode cX11_number 36 = .ok (.bipush 10, 2) := by decide +kernel
theorem dX11_number_38 : decode cX11_number 38 = .ok (.iload_n 1, 1) := by decide +kernel
theorem dX11_number_39 : decode cX11_number 39 = .ok (.imul, 1) := by decide +kernel
theorem dX11_number_40 : decode cX11_number 40 = .ok (.aload_n 0, 1) := by decide +kernel
theorem dX11_number_41 : decode cX11_number 41 = .ok (.invokevirtual 239, 3) := by decide +kernel
theorem dX11_number_44 : decode cX11_number 44 = .ok (.iadd, 1) := by decide +kernel
theorem dX11_number_45 : decode cX11_number 45 = .ok (.bipush 48, 2) := by decide +kernel
theorem dX11_number_47 : decode cX11_number 47 = .ok (.isub, 1) := by decide +kernel
theorem dX11_number_48 : decode cX11_number 48 = .ok (.istore_n 1, 1) := by decide +kernel
theorem dX11_number_49 : decode cX11_number 49 = .ok (.aload_n 0, 1) := by decide +kernel
theorem dX11_number_50 : decode cX11_number 50 = .ok (.dup, 1) := by decide +kernel
theorem dX11_number_51 : decode cX11_number 51 = .ok (.getfield 229, 3) := by decide +kernel
theorem dX11_number_54 : decode cX11_number 54 = .ok (.iconst 1, 1) := by decide +kernel
theorem dX11_number_55 : decode cX11_number 55 = .ok (.iadd, 1) := by decide +kernel
theorem dX11_number_56 : decode cX11_number 56 = .ok (.putfield 229, 3) := by decide +kernel
theorem dX11_number_59 : decode cX11_number 59 = .ok (.iinc 2 1, 3) := by decide +kernel
theorem dX11_number_62 : decode cX11_number 62 = .ok (.goto (-42), 3) := by decide +kernel
theorem dX11_number_65 : decode cX11_number 65 = .ok (.iload_n 1, 1) := by decide +kernel
theorem dX11_number_66 : decode cX11_number 66 = .ok (.ireturn, 1) := by decide +kernel
set_option maxRecDepth 100000 in
theorem t_M_number_L20 (hC : CX z ad x cX11_number RX11 3 (some .int)) (hR : x.2.2.1 = rmk 3 0 0) (n : Nat) (σ : MS) (a1 : Int32) (a2 : Int32) : AT z x 3 (wM z τ) rI (eqA ad) 0 0 0 0 ad 20 [(0, .ref 0), (1, .int a1), (2, .int a2)] [] σ (M_number_L20 n σ a1 a2) := by
  revert σ a1 a2
  show ∀ (σ : MS) (a1 : Int32) (a2 : Int32), AT z x 3 (wM z τ) rI (eqA ad) 0 0 0 0 ad 20 [(0, .ref 0), (1, .int a1), (2, .int a2)] [] σ (M_number_L20_r n σ a1 a2)
  induction n with
  | zero => intro σ a1 a2; exact at_none
  | succ n hk_20 =>
    intro σ a1 a2
    unfold M_number_L20_r
    refine at_iload_n (j := 2) hC rfl rfl dX11_number_20 ?_
    refine at_iconst hC ic_4 dX11_number_21 ?_
    refine at_icmp_ge (tgt := 65) hC dX11_number_22 rfl (fun _ => ?_) (fun _ => ?_)
    · refine at_iload_n (j := 1) hC rfl rfl dX11_number_65 ?_
      exact at_iret (F := eqA ad) (ra := rI) hC dX11_number_66 rfl (Nat.le_refl 0) (Nat.le_refl 0) rfl
    · refine at_iload_n (j := 1) hC rfl rfl dX11_number_25 ?_
      refine at_if_le (tgt := 65) hC dX11_number_26 rfl (fun _ => ?_) (fun _ => ?_)
      · refine at_iload_n (j := 1) hC rfl rfl dX11_number_65 ?_
        exact at_iret (F := eqA ad) (ra := rI) hC dX11_number_66 rfl (Nat.le_refl 0) (Nat.le_refl 0) rfl
      · refine at_aload_n (j := 0) hC rfl rfl dX11_number_29 ?_
        refine at_callVpI hC hR lk_X11_286 (c_M_isDigit σ) dX11_number_30 recX11 rfl rfl ⟨by decide, by decide⟩ (Nat.le_of_ble_eq_true rfl) ⟨Nat.le_refl 0, Nat.le_refl 0⟩ (fun r2 _ => ?_)
        refine at_if_eq (tgt := 65) hC dX11_number_33 rfl (fun _ => ?_) (fun _ => ?_)
        · refine at_iload_n (j := 1) hC rfl rfl dX11_number_65 ?_
          exact at_iret (F := eqA ad) (ra := rI) hC dX11_number_66 rfl (Nat.le_refl 0) (Nat.le_refl 0) rfl
        · refine at_bipush hC bi_10 dX11_number_36 ?_
          refine at_iload_n (j := 1) hC rfl rfl dX11_number_38 ?_
          refine at_imul hC dX11_number_39 ?_
          refine at_aload_n (j := 0) hC rfl rfl dX11_number_40 ?_
          refine at_callVpI hC hR lk_X11_239 (c_M_byteAt σ) dX11_number_41 recX11 rfl rfl ⟨by decide, by decide⟩ (Nat.le_of_ble_eq_true rfl) ⟨Nat.le_refl 0, Nat.le_refl 0⟩ (fun r3 _ => ?_)
          refine at_iadd hC dX11_number_44 ?_
          refine at_bipush hC bi_48 dX11_number_45 ?_
          refine at_isub hC dX11_number_47 ?_
          refine at_istore_n (lv' := [(1, .int (((10 * a1) + r3) - 48)), (0, .ref 0), (2, .int a2)]) hC rfl dX11_number_48 (by decide) rfl ?_
          refine at_aload_n (j := 1) hC rfl rfl dX11_number_49 ?_
          refine at_dup hC rfl dX11_number_50 ?_
          refine gf_X11_229 hC dX11_number_51 ?_
          refine at_iconst hC ic_1 dX11_number_54 ?_
          refine at_iadd hC dX11_number_55 ?_
          refine pf_X11_229 hC dX11_number_56 ?_
          refine at_iinc (j := 2) (v := a2 + 1) (lv' := [(2, .int (a2 + 1)), (1, .int (((10 * a1) + r3) - 48)), (0, .ref 0)]) hC dX11_number_59 rfl rfl (by decide) rfl ?_
          refine at_goto (tgt := 20) hC dX11_number_62 rfl ?_
          refine at_drop (lv' := [(0, .ref 0), (1, .int (((10 * a1) + r3) - 48)), (2, .int (a2 + 1))]) [2, 1, 0] rfl ?_
          exact hk_20 (sI σ 47 ((σ.1 47) + 1)) (((10 * a1) + r3) - 48) (a2 + 1)
set_option maxRecDepth 100000 in
theorem c_M_number (σ : MS) : Ct z (wM z τ) rI eqA yX11_number cX11_number 3 (some .int) 3 0 0 [.ref 0] σ (M_number σ) := by
  refine Ct.of (by decide) (Nat.le_of_ble_eq_true rfl) (fun ad x hC hR _ => ?_)
  show AT z x 3 (wM z τ) rI (eqA ad) 0 0 0 0 ad 0 [(0, .ref 0)] [] σ (M_number σ)
  unfold M_number
  refine at_aload_n (j := 0) hC rfl rfl dX11_number_0 ?_
  refine at_callVpI hC hR lk_X11_239 (c_M_byteAt σ) dX11_number_1 recX11 rfl rfl ⟨by decide, by decide⟩ (Nat.le_of_ble_eq_true rfl) ⟨Nat.le_refl 0, Nat.le_refl 0⟩ (fun r1 _ => ?_)
  refine at_bipush hC bi_48 dX11_number_4 ?_
  refine at_isub hC dX11_number_6 ?_
  refine at_istore_n (lv' := [(1, .int (r1 - 48)), (0, .ref 0)]) hC rfl dX11_number_7 (by decide) rfl ?_
  refine at_aload_n (j := 1) hC rfl rfl dX11_number_8 ?_
  refine at_dup hC rfl dX11_number_9 ?_
  refine gf_X11_229 hC dX11_number_10 ?_
  refine at_iconst hC ic_1 dX11_number_13 ?_
  refine at_iadd hC dX11_number_14 ?_
  refine pf_X11_229 hC dX11_number_15 ?_
  refine at_iconst hC ic_1 dX11_number_18 ?_
  refine at_istore_n (lv' := [(2, .int 1), (1, .int (r1 - 48)), (0, .ref 0)]) hC rfl dX11_number_19 (by decide) rfl ?_
  refine at_drop (lv' := [(0, .ref 0), (1, .int (r1 - 48)), (2, .int 1)]) [2, 1, 0] rfl ?_
  exact t_M_number_L20 hC hR 100000 (sI σ 47 ((σ.1 47) + 1)) (r1 - 48) 1
theorem dX11_must_0 : decode cX11_must 0 = .ok (.aload_n 0, 1) := by decide +kernel
theorem dX11_must_1 : decode cX11_must 1 = .ok (.aload_n 0, 1) := by decide +kernel
theorem dX11_must_2 : decode cX11_must 2 = .ok (.getfield 235, 3) := by decide +kernel
theorem dX11_must_5 : decode cX11_must 5 = .ok (.ifCond .ne 11, 3) := by decide +kernel
theorem dX11_must_8 : decode cX11_must 8 = .ok (.aload_n 0, 1) := by decide +kernel
theorem dX11_must_9 : decode cX11_must 9 = .ok (.invokevirtual 239, 3) := by decide +kernel
theorem dX11_must_12 : decode cX11_must 12 = .ok (.iload_n 1, 1) := by decide +kernel
theorem dX11_must_13 : decode cX11_must 13 = .ok (.if_icmp .eq 7, 3) := by decide +kernel
theorem dX11_must_16 : decode cX11_must 16 = .ok (.iconst 1, 1) := by decide +kernel
theorem dX11_must_17 : decode cX11_must 17 = .ok (.goto 4, 3) := by decide +kernel
theorem dX11_must_20 : decode cX11_must 20 = .ok (.iconst 0, 1) := by decide +kernel
theorem dX11_must_21 : decode cX11_must 21 = .ok (.putfield 235, 3) := by decide +kernel
theorem dX11_must_24 : decode cX11_must 24 = .ok (.aload_n 0, 1) := by decide +kernel
theorem dX11_must_25 : decode cX11_must 25 = .ok (.dup, 1) := by decide +kernel
theorem dX11_must_26 : decode cX11_must 26 = .ok (.getfield 229, 3) := by decide +kernel
theorem dX11_must_29 : decode cX11_must 29 = .ok (.aload_n 0, 1) := by decide +kernel
theorem dX11_must_30 : decode cX11_must 30 = .ok (.getfield 235, 3) := by decide +kernel
theorem dX11_must_33 : decode cX11_must 33 = .ok (.ifCond .eq 7, 3) := by decide +kernel
theorem dX11_must_36 : decode cX11_must 36 = .ok (.iconst 0, 1) := by decide +kernel
theorem dX11_must_37 : decode cX11_must 37 = .ok (.goto 4, 3) := by decide +kernel
theorem dX11_must_40 : decode cX11_must 40 = .ok (.iconst 1, 1) := by decide +kernel
theorem dX11_must_41 : decode cX11_must 41 = .ok (.iadd, 1) := by decide +kernel
theorem dX11_must_42 : decode cX11_must 42 = .ok (.putfield 229, 3) := by decide +kernel
theorem dX11_must_45 : decode cX11_must 45 = .ok (.return_, 1) := by decide +kernel
set_option maxRecDepth 100000 in
theorem t_M_must_J41 (hC : CX z ad x cX11_must RX11 2 none) (hR : x.2.2.1 = rmk 2 0 0) (σ : MS) (s0 : Int32) (s1 : Int32) : AT z x 2 (wM z τ) rU (eqA ad) 0 0 0 0 ad 41 [] [.int s0, .int s1, .ref 0] σ (M_must_J41 σ s0 s1) := by
  unfold M_must_J41
  refine at_iadd hC dX11_must_41 ?_
  refine pf_X11_229 hC dX11_must_42 ?_
  exact at_vret (F := eqA ad) (ra := rU) hC dX11_must_45 rfl (Nat.le_refl 0) (Nat.le_refl 0) rfl
set_option maxRecDepth 100000 in
theorem t_M_must_J21 (hC : CX z ad x cX11_must RX11 2 none) (hR : x.2.2.1 = rmk 2 0 0) (σ : MS) (s0 : Int32) : AT z x 2 (wM z τ) rU (eqA ad) 0 0 0 0 ad 21 [(0, .ref 0)] [.int s0, .ref 0] σ (M_must_J21 σ s0) := by
  unfold M_must_J21
  refine at_bz (fun hb => ?_)
  refine pf_X11_235 hC hb dX11_must_21 ?_
  refine at_aload_n (j := 0) hC rfl rfl dX11_must_24 ?_
  refine at_dup hC rfl dX11_must_25 ?_
  refine gf_X11_229 hC dX11_must_26 ?_
  refine at_aload_n (j := 0) hC rfl rfl dX11_must_29 ?_
  refine gf_X11_235 hC dX11_must_30 ?_
  refine at_if_eq (tgt := 40) hC dX11_must_33 rfl (fun _ => ?_) (fun _ => ?_)
  · refine at_iconst hC ic_1 dX11_must_40 ?_
    refine at_drop (lv' := []) [] rfl ?_
    exact t_M_must_J41 hC hR (sI σ 48 s0) 1 ((sI σ 48 s0).1 47)
  · refine at_iconst hC ic_0 dX11_must_36 ?_
    refine at_goto (tgt := 41) hC dX11_must_37 rfl ?_
    refine at_drop (lv' := []) [] rfl ?_
    exact t_M_must_J41 hC hR (sI σ 48 s0) 0 ((sI σ 48 s0).1 47)
set_option maxRecDepth 100000 in
theorem t_M_must_J16 (hC : CX z ad x cX11_must RX11 2 none) (hR : x.2.2.1 = rmk 2 0 0) (σ : MS) : AT z x 2 (wM z τ) rU (eqA ad) 0 0 0 0 ad 16 [(0, .ref 0)] [.ref 0] σ (M_must_J16 σ) := by
  unfold M_must_J16
  refine at_iconst hC ic_1 dX11_must_16 ?_
  refine at_goto (tgt := 21) hC dX11_must_17 rfl ?_
  exact t_M_must_J21 hC hR σ 1
set_option maxRecDepth 100000 in
theorem c_M_must (σ : MS) (p0 : Int32) : Ct z (wM z τ) rU eqA yX11_must cX11_must 2 none 2 0 0 [.ref 0, .int p0] σ (M_must σ p0) := by
  refine Ct.of (by decide) (Nat.le_of_ble_eq_true rfl) (fun ad x hC hR _ => ?_)
  show AT z x 2 (wM z τ) rU (eqA ad) 0 0 0 0 ad 0 [(0, .ref 0), (1, .int p0)] [] σ (M_must σ p0)
  unfold M_must
  refine at_aload_n (j := 0) hC rfl rfl dX11_must_0 ?_
  refine at_aload_n (j := 0) hC rfl rfl dX11_must_1 ?_
  refine gf_X11_235 hC dX11_must_2 ?_
  refine at_if_ne (tgt := 16) hC dX11_must_5 rfl (fun _ => ?_) (fun _ => ?_)
  · refine at_drop (lv' := [(0, .ref 0)]) [0] rfl ?_
    exact t_M_must_J16 hC hR σ
  · refine at_aload_n (j := 0) hC rfl rfl dX11_must_8 ?_
    refine at_callVpI hC hR lk_X11_239 (c_M_byteAt σ) dX11_must_9 recX11 rfl rfl ⟨by decide, by decide⟩ (Nat.le_of_ble_eq_true rfl) ⟨Nat.le_refl 0, Nat.le_refl 0⟩ (fun r1 _ => ?_)
    refine at_iload_n (j := 1) hC rfl rfl dX11_must_12 ?_
    refine at_icmp_eq (tgt := 20) hC dX11_must_13 rfl (fun _ => ?_) (fun _ => ?_)
    · refine at_iconst hC ic_0 dX11_must_20 ?_
      refine at_drop (lv' := [(0, .ref 0)]) [0] rfl ?_
      exact t_M_must_J21 hC hR σ 0
    · refine at_drop (lv' := [(0, .ref 0)]) [0] rfl ?_
      exact t_M_must_J16 hC hR σ
theorem dX11_word_0 : decode cX11_word 0 = .ok (.iload_n 0, 1) := by decide +kernel
theorem dX11_word_1 : decode cX11_word 1 = .ok (.tableswitch 120 0 13 #[71, 74, 77, 80, 83, 86, 89, 92, 96, 100, 104, 108, 112, 116], 71) := by decide +kernel
theorem dX11_word_72 : decode cX11_word 72 = .ok (.ldc 243, 2) := by decide +kernel
theorem dX11_word_74 : decode cX11_word 74 = .ok (.areturn, 1) := by decide +kernel
theorem dX11_word_75 : decode cX11_word 75 = .ok (.ldc 245, 2) := by decide +kernel
theorem dX11_word_77 : decode cX11_word 77 = .ok (.areturn, 1) := by decide +kernel
theorem dX11_word_78 : decode cX11_word 78 = .ok (.ldc 247, 2) := by decide +kernel
theorem dX11_word_80 : decode cX11_word 80 = .ok (.areturn, 1) := by decide +kernel
theorem dX11_word_81 : decode cX11_word 81 = .ok (.ldc 249, 2) := by decide +kernel
theorem dX11_word_83 : decode cX11_word 83 = .ok (.areturn, 1) := by decide +kernel
theorem dX11_word_84 : decode cX11_word 84 = .ok (.ldc 251, 2) := by decide +kernel
theorem dX11_word_86 : decode cX11_word 86 = .ok (.areturn, 1) := by decide +kernel
theorem dX11_word_87 : decode cX11_word 87 = .ok (.ldc 253, 2) := by decide +kernel
theorem dX11_word_89 : decode cX11_word 89 = .ok (.areturn, 1) := by decide +kernel
theorem dX11_word_90 : decode cX11_word 90 = .ok (.ldc 255, 2) := by decide +kernel
theorem dX11_word_92 : decode cX11_word 92 = .ok (.areturn, 1) := by decide +kernel
theorem dX11_word_93 : decode cX11_word 93 = .ok (.ldc_w 257, 3) := by decide +kernel
theorem dX11_word_96 : decode cX11_word 96 = .ok (.areturn, 1) := by decide +kernel
theorem dX11_word_97 : decode cX11_word 97 = .ok (.ldc_w 259, 3) := by decide +kernel
theorem dX11_word_100 : decode cX11_word 100 = .ok (.areturn, 1) := by decide +kernel
theorem dX11_word_101 : decode cX11_word 101 = .ok (.ldc_w 261, 3) := by decide +kernel
theorem dX11_word_104 : decode cX11_word 104 = .ok (.areturn, 1) := by decide +kernel
theorem dX11_word_105 : decode cX11_word 105 = .ok (.ldc_w 263, 3) := by decide +kernel
theorem dX11_word_108 : decode cX11_word 108 = .ok (.areturn, 1) := by decide +kernel
theorem dX11_word_109 : decode cX11_word 109 = .ok (.ldc_w 265, 3) := by decide +kernel
theorem dX11_word_112 : decode cX11_word 112 = .ok (.areturn, 1) := by decide +kernel
theorem dX11_word_113 : decode cX11_word 113 = .ok (.ldc_w 267, 3) := by decide +kernel
theorem dX11_word_116 : decode cX11_word 116 = .ok (.areturn, 1) := by decide +kernel
theorem dX11_word_117 : decode cX11_word 117 = .ok (.ldc_w 269, 3) := by decide +kernel
theorem dX11_word_120 : decode cX11_word 120 = .ok (.areturn, 1) := by decide +kernel
theorem dX11_word_121 : decode cX11_word 121 = .ok (.ldc_w 271, 3) := by decide +kernel
theorem dX11_word_124 : decode cX11_word 124 = .ok (.areturn, 1) := by decide +kernel
set_option maxRecDepth 100000 in
theorem c_M_word (σ : MS) (p0 : Int32) : Ct z (wM z τ) rN eqA yX11_word cX11_word 1 (some (.object "java/lang/String")) 1 0 0 [.int p0] σ ((M_word σ p0).map fun r => (r, σ)) := by
  refine Ct.of (by decide) (Nat.le_of_ble_eq_true rfl) (fun ad x hC hR _ => ?_)
  show AT z x 1 (wM z τ) rN (eqA ad) 0 0 0 0 ad 0 [(0, .int p0)] [] σ ((M_word σ p0).map fun r => (r, σ))
  unfold M_word
  refine at_iload_n (j := 0) hC rfl rfl dX11_word_0 ?_
  refine ap_sw (off := 71) (tgt := 72) (v := 0) hC 0 dX11_word_1 rfl rfl (by decide) (by decide) swp0 ?_ (fun hp0 => ?_)
  · refine at_ldcS (m := 1000006) hC 6 rfl rfl dX11_word_72 ?_
    exact at_aret (F := eqA ad) (ra := rN) hC dX11_word_74 rfl (Nat.le_refl 0) (Nat.le_refl 0) rfl
  refine ap_sw (off := 74) (tgt := 75) (v := 1) hC 1 dX11_word_1 rfl rfl (by decide) (by decide) hp0 ?_ (fun hp1 => ?_)
  · refine at_ldcS (m := 1000007) hC 7 rfl rfl dX11_word_75 ?_
    exact at_aret (F := eqA ad) (ra := rN) hC dX11_word_77 rfl (Nat.le_refl 0) (Nat.le_refl 0) rfl
  refine ap_sw (off := 77) (tgt := 78) (v := 2) hC 2 dX11_word_1 rfl rfl (by decide) (by decide) hp1 ?_ (fun hp2 => ?_)
  · refine at_ldcS (m := 1000008) hC 8 rfl rfl dX11_word_78 ?_
    exact at_aret (F := eqA ad) (ra := rN) hC dX11_word_80 rfl (Nat.le_refl 0) (Nat.le_refl 0) rfl
  refine ap_sw (off := 80) (tgt := 81) (v := 3) hC 3 dX11_word_1 rfl rfl (by decide) (by decide) hp2 ?_ (fun hp3 => ?_)
  · refine at_ldcS (m := 1000009) hC 9 rfl rfl dX11_word_81 ?_
    exact at_aret (F := eqA ad) (ra := rN) hC dX11_word_83 rfl (Nat.le_refl 0) (Nat.le_refl 0) rfl
  refine ap_sw (off := 83) (tgt := 84) (v := 4) hC 4 dX11_word_1 rfl rfl (by decide) (by decide) hp3 ?_ (fun hp4 => ?_)
  · refine at_ldcS (m := 1000010) hC 10 rfl rfl dX11_word_84 ?_
    exact at_aret (F := eqA ad) (ra := rN) hC dX11_word_86 rfl (Nat.le_refl 0) (Nat.le_refl 0) rfl
  refine ap_sw (off := 86) (tgt := 87) (v := 5) hC 5 dX11_word_1 rfl rfl (by decide) (by decide) hp4 ?_ (fun hp5 => ?_)
  · refine at_ldcS (m := 1000011) hC 11 rfl rfl dX11_word_87 ?_
    exact at_aret (F := eqA ad) (ra := rN) hC dX11_word_89 rfl (Nat.le_refl 0) (Nat.le_refl 0) rfl
  refine ap_sw (off := 89) (tgt := 90) (v := 6) hC 6 dX11_word_1 rfl rfl (by decide) (by decide) hp5 ?_ (fun hp6 => ?_)
  · refine at_ldcS (m := 1000012) hC 12 rfl rfl dX11_word_90 ?_
    exact at_aret (F := eqA ad) (ra := rN) hC dX11_word_92 rfl (Nat.le_refl 0) (Nat.le_refl 0) rfl
  refine ap_sw (off := 92) (tgt := 93) (v := 7) hC 7 dX11_word_1 rfl rfl (by decide) (by decide) hp6 ?_ (fun hp7 => ?_)
  · refine at_ldcwS (m := 1000013) hC 13 rfl rfl dX11_word_93 ?_
    exact at_aret (F := eqA ad) (ra := rN) hC dX11_word_96 rfl (Nat.le_refl 0) (Nat.le_refl 0) rfl
  refine ap_sw (off := 96) (tgt := 97) (v := 8) hC 8 dX11_word_1 rfl rfl (by decide) (by decide) hp7 ?_ (fun hp8 => ?_)
  · refine at_ldcwS (m := 1000014) hC 14 rfl rfl dX11_word_97 ?_
    exact at_aret (F := eqA ad) (ra := rN) hC dX11_word_100 rfl (Nat.le_refl 0) (Nat.le_refl 0) rfl
  refine ap_sw (off := 100) (tgt := 101) (v := 9) hC 9 dX11_word_1 rfl rfl (by decide) (by decide) hp8 ?_ (fun hp9 => ?_)
  · refine at_ldcwS (m := 1000000) hC 15 rfl rfl dX11_word_101 ?_
    exact at_aret (F := eqA ad) (ra := rN) hC dX11_word_104 rfl (Nat.le_refl 0) (Nat.le_refl 0) rfl
  refine ap_sw (off := 104) (tgt := 105) (v := 10) hC 10 dX11_word_1 rfl rfl (by decide) (by decide) hp9 ?_ (fun hp10 => ?_)
  · refine at_ldcwS (m := 1000015) hC 16 rfl rfl dX11_word_105 ?_
    exact at_aret (F := eqA ad) (ra := rN) hC dX11_word_108 rfl (Nat.le_refl 0) (Nat.le_refl 0) rfl
  refine ap_sw (off := 108) (tgt := 109) (v := 11) hC 11 dX11_word_1 rfl rfl (by decide) (by decide) hp10 ?_ (fun hp11 => ?_)
  · refine at_ldcwS (m := 1000016) hC 17 rfl rfl dX11_word_109 ?_
    exact at_aret (F := eqA ad) (ra := rN) hC dX11_word_112 rfl (Nat.le_refl 0) (Nat.le_refl 0) rfl
  refine ap_sw (off := 112) (tgt := 113) (v := 12) hC 12 dX11_word_1 rfl rfl (by decide) (by decide) hp11 ?_ (fun hp12 => ?_)
  · refine at_ldcwS (m := 1000017) hC 18 rfl rfl dX11_word_113 ?_
    exact at_aret (F := eqA ad) (ra := rN) hC dX11_word_116 rfl (Nat.le_refl 0) (Nat.le_refl 0) rfl
  refine ap_sw (off := 116) (tgt := 117) (v := 13) hC 13 dX11_word_1 rfl rfl (by decide) (by decide) hp12 ?_ (fun hp13 => ?_)
  · refine at_ldcwS (m := 1000018) hC 19 rfl rfl dX11_word_117 ?_
    exact at_aret (F := eqA ad) (ra := rN) hC dX11_word_120 rfl (Nat.le_refl 0) (Nat.le_refl 0) rfl
  refine at_swd (tgt := 121) hC 14 dX11_word_1 rfl (by decide) hp13 ?_
  refine at_ldcwS (m := 1000019) hC 20 rfl rfl dX11_word_121 ?_
  exact at_aret (F := eqA ad) (ra := rN) hC dX11_word_124 rfl (Nat.le_refl 0) (Nat.le_refl 0) rfl
theorem dX11_oneOf_0 : decode cX11_oneOf 0 = .ok (.iconst 0, 1) := by decide +kernel
theorem dX11_oneOf_1 : decode cX11_oneOf 1 = .ok (.istore_n 3, 1) := by decide +kernel
theorem dX11_oneOf_2 : decode cX11_oneOf 2 = .ok (.iload_n 1, 1) := by decide +kernel
theorem dX11_oneOf_3 : decode cX11_oneOf 3 = .ok (.istore 4, 2) := by decide +kernel
theorem dX11_oneOf_5 : decode cX11_oneOf 5 = .ok (.iload 4, 2) := by decide +kernel
theorem dX11_oneOf_7 : decode cX11_oneOf 7 = .ok (.iload_n 2, 1) := by decide +kernel
theorem dX11_oneOf_8 : decode cX11_oneOf 8 = .ok (.if_icmp .gt 16, 3) := by decide +kernel
theorem dX11_oneOf_11 : decode cX11_oneOf 11 = .ok (.iload_n 3, 1) := by decide +kernel
theorem dX11_oneOf_12 : decode cX11_oneOf 12 = .ok (.iconst 1, 1) := by decide +kernel
theorem dX11_oneOf_13 : decode cX11_oneOf 13 = .ok (.iload 4, 2) := by decide +kernel
theorem dX11_oneOf_15 : decode cX11_oneOf 15 = .ok (.ishl, 1) := by decide +kernel
theorem dX11_oneOf_16 : decode cX11_oneOf 16 = .ok (.ior, 1) := by decide +kernel
theorem dX11_oneOf_17 : decode cX11_oneOf 17 = .ok (.istore_n 3, 1) := by decide +kernel
theorem dX11_oneOf_18 : decode cX11_oneOf 18 = .ok (.iinc 4 1, 3) := by decide +kernel
theorem dX11_oneOf_21 : decode cX11_oneOf 21 = .ok (.goto (-16), 3) := by decide +kernel
theorem dX11_oneOf_24 : decode cX11_oneOf 24 = .ok (.iconst 0, 1) := by decide +kernel
theorem dX11_oneOf_25 : decode cX11_oneOf 25 = .ok (.istore 4, 2) := by decide +kernel
theorem dX11_oneOf_27 : decode cX11_oneOf 27 = .ok (.aload_n 0, 1) := by decide +kernel
theorem dX11_oneOf_28 : decode cX11_oneOf 28 = .ok (.getfield 235, 3) := by decide +kernel
theorem dX11_oneOf_31 : decode cX11_oneOf 31 = .ok (.ifCond .ne 7, 3) := by decide +kernel
theorem dX11_oneOf_34 : decode cX11_oneOf 34 = .ok (.iconst 1, 1) := by decide +kernel
theorem dX11_oneOf_35 : decode cX11_oneOf 35 = .ok (.goto 4, 3) := by decide +kernel
theorem dX11_oneOf_38 : decode cX11_oneOf 38 = .ok (.iconst 0, 1) := by decide +kernel
theorem dX11_oneOf_39 : decode cX11_oneOf 39 = .ok (.istore 5, 2) := by decide +kernel
theorem dX11_oneOf_41 : decode cX11_oneOf 41 = .ok (.iload 5, 2) := by decide +kernel
theorem dX11_oneOf_43 : decode cX11_oneOf 43 = .ok (.ifCond .eq 135, 3) := by decide +kernel
theorem dX11_oneOf_46 : decode cX11_oneOf 46 = .ok (.iconst 0, 1) := by decide +kernel
theorem dX11_oneOf_47 : decode cX11_oneOf 47 = .ok (.istore 6, 2) := by decide +kernel
theorem dX11_oneOf_49 : decode cX11_oneOf 49 = .ok (.iload_n 1, 1) := by decide +kernel
theorem dX11_oneOf_50 : decode cX11_oneOf 50 = .ok (.istore 7, 2) := by decide +kernel
theorem dX11_oneOf_52 : decode cX11_oneOf 52 = .ok (.iload 7, 2) := by decide +kernel
theorem dX11_oneOf_54 : decode cX11_oneOf 54 = .ok (.iload_n 2, 1) := by decide +kernel
theorem dX11_oneOf_55 : decode cX11_oneOf 55 = .ok (.if_icmp .gt 62, 3) := by decide +kernel
theorem dX11_oneOf_58 : decode cX11_oneOf 58 = .ok (.iload 6, 2) := by decide +kernel
theorem dX11_oneOf_60 : decode cX11_oneOf 60 = .ok (.iload_n 3, 1) := by decide +kernel
theorem dX11_oneOf_61 : decode cX11_oneOf 61 = .ok (.iload 7, 2) := by decide +kernel
theorem dX11_oneOf_63 : decode cX11_oneOf 63 = .ok (.ishr, 1) := by decide +kernel
theorem dX11_oneOf_64 : decode cX11_oneOf 64 = .ok (.iconst 1, 1) := by decide +kernel
theorem dX11_oneOf_65 : decode cX11_oneOf 65 = .ok (.iand, 1) := by decide +kernel
theorem dX11_oneOf_66 : decode cX11_oneOf 66 = .ok (.iconst 1, 1) := by decide +kernel
theorem dX11_oneOf_67 : decode cX11_oneOf 67 = .ok (.if_icmp .ne 40, 3) := by decide +kernel
theorem dX11_oneOf_70 : decode cX11_oneOf 70 = .ok (.iload 4, 2) := by decide +kernel
theorem dX11_oneOf_72 : decode cX11_oneOf 72 = .ok (.iload 7, 2) := by decide +kernel
theorem dX11_oneOf_74 : decode cX11_oneOf 74 = .ok (.invokestatic 273, 3) := by decide +kernel
theorem dX11_oneOf_77 : decode cX11_oneOf 77 = .ok (.invokevirtual 277, 3) := by decide +kernel
theorem dX11_oneOf_80 : decode cX11_oneOf 80 = .ok (.if_icmp .ge 27, 3) := by decide +kernel
theorem dX11_oneOf_83 : decode cX11_oneOf 83 = .ok (.iload 7, 2) := by decide +kernel
theorem dX11_oneOf_85 : decode cX11_oneOf 85 = .ok (.invokestatic 273, 3) := by decide +kernel
theorem dX11_oneOf_88 : decode cX11_oneOf 88 = .ok (.iload 4, 2) := by decide +kernel
theorem dX11_oneOf_90 : decode cX11_oneOf 90 = .ok (.invokevirtual 282, 3) := by decide +kernel
theorem dX11_oneOf_93 : decode cX11_oneOf 93 = .ok (.aload_n 0, 1) := by decide +kernel
theorem dX11_oneOf_94 : decode cX11_oneOf 94 = .ok (.invokevirtual 239, 3) := by decide +kernel
theorem dX11_oneOf_97 : decode cX11_oneOf 97 = .ok (.if_icmp .ne 10, 3) := by decide +kernel
theorem dX11_oneOf_100 : decode cX11_oneOf 100 = .ok (.iconst 1, 1) := by decide +kernel
theorem dX11_oneOf_101 : decode cX11_oneOf 101 = .ok (.iload 7, 2) := by decide +kernel
theorem dX11_oneOf_103 : decode cX11_oneOf 103 = .ok (.ishl, 1) := by decide +kernel
theorem dX11_oneOf_104 : decode cX11_oneOf 104 = .ok (.goto 4, 3) := by decide +kernel
theorem dX11_oneOf_107 : decode cX11_oneOf 107 = .ok (.iconst 0, 1) := by decide +kernel
theorem dX11_oneOf_108 : decode cX11_oneOf 108 = .ok (.ior, 1) := by decide +kernel
theorem dX11_oneOf_109 : decode cX11_oneOf 109 = .ok (.istore 6, 2) := by decide +kernel
theorem dX11_oneOf_111 : decode cX11_oneOf 111 = .ok (.iinc 7 1, 3) := by decide +kernel
theorem dX11_oneOf_114 : decode cX11_oneOf 114 = .ok (.goto (-62), 3) := by decide +kernel
theorem dX11_oneOf_117 : decode cX11_oneOf 117 = .ok (.iload 6, 2) := by decide +kernel
theorem dX11_oneOf_119 : decode cX11_oneOf 119 = .ok (.ifCond .eq 7, 3) := by decide +kernel
theorem dX11_oneOf_122 : decode cX11_oneOf 122 = .ok (.iconst 1, 1) := by decide +kernel
theorem dX11_oneOf_123 : decode cX11_oneOf 123 = .ok (.goto 4, 3) := by decide +kernel
theorem dX11_oneOf_126 : decode cX11_oneOf 126 = .ok (.iconst 0, 1) := by decide +kernel
theorem dX11_oneOf_127 : decode cX11_oneOf 127 = .ok (.istore 5, 2) := by decide +kernel
theorem dX11_oneOf_129 : decode cX11_oneOf 129 = .ok (.iload 5, 2) := by decide +kernel
theorem dX11_oneOf_131 : decode cX11_oneOf 131 = .ok (.ifCond .eq 8, 3) := by decide +kernel
theorem dX11_oneOf_134 : decode cX11_oneOf 134 = .ok (.iload 6, 2) := by decide +kernel
theorem dX11_oneOf_136 : decode cX11_oneOf 136 = .ok (.goto 4, 3) := by decide +kernel
theorem dX11_oneOf_139 : decode cX11_oneOf 139 = .ok (.iload_n 3, 1) := by decide +kernel
theorem dX11_oneOf_140 : decode cX11_oneOf 140 = .ok (.istore_n 3, 1) := by decide +kernel
theorem dX11_oneOf_141 : decode cX11_oneOf 141 = .ok (.iload 4, 2) := by decide +kernel
theorem dX11_oneOf_143 : decode cX11_oneOf 143 = .ok (.iload 5, 2) := by decide +kernel
theorem dX11_oneOf_145 : decode cX11_oneOf 145 = .ok (.ifCond .eq 7, 3) := by decide +kernel
theorem dX11_oneOf_148 : decode cX11_oneOf 148 = .ok (.iconst 1, 1) := by decide +kernel
theorem dX11_oneOf_149 : decode cX11_oneOf 149 = .ok (.goto 4, 3) := by decide +kernel
theorem dX11_oneOf_152 : decode cX11_oneOf 152 = .ok (.iconst 0, 1) := by decide +kernel
theorem dX11_oneOf_153 : decode cX11_oneOf 153 = .ok (.iadd, 1) := by decide +kernel
theorem dX11_oneOf_154 : decode cX11_oneOf 154 = .ok (.istore 4, 2) := by decide +kernel
theorem dX11_oneOf_156 : decode cX11_oneOf 156 = .ok (.aload_n 0, 1) := by decide +kernel
theorem dX11_oneOf_157 : decode cX11_oneOf 157 = .ok (.dup, 1) := by decide +kernel
theorem dX11_oneOf_158 : decode cX11_oneOf 158 = .ok (.getfield 229, 3) := by decide +kernel
theorem dX11_oneOf_161 : decode cX11_oneOf 161 = .ok (.iload 5, 2) := by decide +kernel
theorem dX11_oneOf_163 : decode cX11_oneOf 163 = .ok (.ifCond .eq 7, 3) := by decide +kernel
theorem dX11_oneOf_166 : decode cX11_oneOf 166 = .ok (.iconst 1, 1) := by decide +kernel
theorem dX11_oneOf_167 : decode cX11_oneOf 167 = .ok (.goto 4, 3) := by decide +kernel
theorem dX11_oneOf_170 : decode cX11_oneOf 170 = .ok (.iconst 0, 1) := by decide +kernel
theorem dX11_oneOf_171 : decode cX11_oneOf 171 = .ok (.iadd, 1) := by decide +kernel
theorem dX11_oneOf_172 : decode cX11_oneOf 172 = .ok (.putfield 229, 3) := by decide +kernel
theorem dX11_oneOf_175 : decode cX11_oneOf 175 = .ok (.goto (-134), 3) := by decide +kernel
theorem dX11_oneOf_178 : decode cX11_oneOf 178 = .ok (.iload_n 1, 1) := by decide +kernel
theorem dX11_oneOf_179 : decode cX11_oneOf 179 = .ok (.istore 6, 2) := by decide +kernel
theorem dX11_oneOf_181 : decode cX11_oneOf 181 = .ok (.iload 6, 2) := by decide +kernel
theorem dX11_oneOf_183 : decode cX11_oneOf 183 = .ok (.iload_n 2, 1) := by decide +kernel
theorem dX11_oneOf_184 : decode cX11_oneOf 184 = .ok (.if_icmp .gt 40, 3) := by decide +kernel
theorem dX11_oneOf_187 : decode cX11_oneOf 187 = .ok (.iload_n 3, 1) := by decide +kernel
theorem dX11_oneOf_188 : decode cX11_oneOf 188 = .ok (.iload 6, 2) := by decide +kernel
theorem dX11_oneOf_190 : decode cX11_oneOf 190 = .ok (.ishr, 1) := by decide +kernel
theorem dX11_oneOf_191 : decode cX11_oneOf 191 = .ok (.iconst 1, 1) := by decide +kernel
theorem dX11_oneOf_192 : decode cX11_oneOf 192 = .ok (.iand, 1) := by decide +kernel
theorem dX11_oneOf_193 : decode cX11_oneOf 193 = .ok (.iconst 1, 1) := by decide +kernel
theorem dX11_oneOf_194 : decode cX11_oneOf 194 = .ok (.if_icmp .ne 24, 3) := by decide +kernel
theorem dX11_oneOf_197 : decode cX11_oneOf 197 = .ok (.iload 4, 2) := by decide +kernel
theorem dX11_oneOf_199 : decode cX11_oneOf 199 = .ok (.ifCond .le 19, 3) := by decide +kernel
theorem dX11_oneOf_202 : decode cX11_oneOf 202 = .ok (.iload 6, 2) := by decide +kernel
theorem dX11_oneOf_204 : decode cX11_oneOf 204 = .ok (.invokestatic 273, 3) := by decide +kernel
theorem dX11_oneOf_207 : decode cX11_oneOf 207 = .ok (.invokevirtual 277, 3) := by decide +kernel
theorem dX11_oneOf_210 : decode cX11_oneOf 210 = .ok (.iload 4, 2) := by decide +kernel
theorem dX11_oneOf_212 : decode cX11_oneOf 212 = .ok (.if_icmp .ne 6, 3) := by decide +kernel
theorem dX11_oneOf_215 : decode cX11_oneOf 215 = .ok (.iload 6, 2) := by decide +kernel
theorem dX11_oneOf_217 : decode cX11_oneOf 217 = .ok (.ireturn, 1) := by decide +kernel
theorem dX11_oneOf_218 : decode cX11_oneOf 218 = .ok (.iinc 6 1, 3) := by decide +kernel
theorem dX11_oneOf_221 : decode cX11_oneOf 221 = .ok (.goto (-40), 3) := by decide +kernel
theorem dX11_oneOf_224 : decode cX11_oneOf 224 = .ok (.aload_n 0, 1) := by decide +kernel
theorem dX11_oneOf_225 : decode cX11_oneOf 225 = .ok (.iconst 1, 1) := by decide +kernel
theorem dX11_oneOf_226 : decode cX11_oneOf 226 = .ok (.putfield 235, 3) := by decide +kernel
theorem dX11_oneOf_229 : decode cX11_oneOf 229 = .ok (.iload_n 1, 1) := by decide +kernel
theorem dX11_oneOf_230 : decode cX11_oneOf 230 = .ok (.ireturn, 1) := by decide +kernel
set_option maxRecDepth 100000 in
theorem t_M_oneOf_J218 (hC : CX z ad x cX11_oneOf RX11 8 (some .int)) (hR : x.2.2.1 = rmk 5 0 0) (k_181 : MS → Int32 → Int32 → Int32 → Int32 → Int32 → Option (Int32 × MS)) (hk_181 : ∀ (σ : MS) (a1 : Int32) (a2 : Int32) (a3 : Int32) (a4 : Int32) (a6 : Int32), AT z x 8 (wM z τ) rI (eqA ad) 0 0 0 0 ad 181 [(0, .ref 0), (1, .int a1), (2, .int a2), (3, .int a3), (4, .int a4), (6, .int a6)] [] σ (k_181 σ a1 a2 a3 a4 a6)) (σ : MS) (a1 : Int32) (a2 : Int32) (a3 : Int32) (a4 : Int32) (a6 : Int32) : AT z x 8 (wM z τ) rI (eqA ad) 0 0 0 0 ad 218 [(0, .ref 0), (1, .int a1), (2, .int a2), (3, .int a3), (4, .int a4), (6, .int a6)] [] σ (M_oneOf_J218 k_181 σ a1 a2 a3 a4 a6) := by
  unfold M_oneOf_J218
  refine at_iinc (j := 5) (v := a6 + 1) (lv' := [(6, .int (a6 + 1)), (0, .ref 0), (1, .int a1), (2, .int a2), (3, .int a3), (4, .int a4)]) hC dX11_oneOf_218 rfl rfl (by decide) rfl ?_
  refine at_goto (tgt := 181) hC dX11_oneOf_221 rfl ?_
  refine at_drop (lv' := [(0, .ref 0), (1, .int a1), (2, .int a2), (3, .int a3), (4, .int a4), (6, .int (a6 + 1))]) [1, 2, 3, 4, 5, 0] rfl ?_
  exact hk_181 σ a1 a2 a3 a4 (a6 + 1)
set_option maxRecDepth 100000 in
theorem t_M_oneOf_L181 (hC : CX z ad x cX11_oneOf RX11 8 (some .int)) (hR : x.2.2.1 = rmk 5 0 0) (n : Nat) (σ : MS) (a1 : Int32) (a2 : Int32) (a3 : Int32) (a4 : Int32) (a6 : Int32) : AT z x 8 (wM z τ) rI (eqA ad) 0 0 0 0 ad 181 [(0, .ref 0), (1, .int a1), (2, .int a2), (3, .int a3), (4, .int a4), (6, .int a6)] [] σ (M_oneOf_L181 n σ a1 a2 a3 a4 a6) := by
  revert σ a1 a2 a3 a4 a6
  show ∀ (σ : MS) (a1 : Int32) (a2 : Int32) (a3 : Int32) (a4 : Int32) (a6 : Int32), AT z x 8 (wM z τ) rI (eqA ad) 0 0 0 0 ad 181 [(0, .ref 0), (1, .int a1), (2, .int a2), (3, .int a3), (4, .int a4), (6, .int a6)] [] σ (M_oneOf_L181_r n σ a1 a2 a3 a4 a6)
  induction n with
  | zero => intro σ a1 a2 a3 a4 a6; exact at_none
  | succ n hk_181 =>
    intro σ a1 a2 a3 a4 a6
    unfold M_oneOf_L181_r
    refine at_iload (j := 5) hC rfl dX11_oneOf_181 ?_
    refine at_iload_n (j := 2) hC rfl rfl dX11_oneOf_183 ?_
    refine at_icmp_gt (tgt := 224) hC dX11_oneOf_184 rfl (fun _ => ?_) (fun _ => ?_)
    · refine at_aload_n (j := 0) hC rfl rfl dX11_oneOf_224 ?_
      refine at_iconst hC ic_1 dX11_oneOf_225 ?_
      refine pf_X11_235 hC (Or.inr rfl) dX11_oneOf_226 ?_
      refine at_iload_n (j := 1) hC rfl rfl dX11_oneOf_229 ?_
      exact at_iret (F := eqA ad) (ra := rI) hC dX11_oneOf_230 rfl (Nat.le_refl 0) (Nat.le_refl 0) rfl
    · refine at_iload_n (j := 3) hC rfl rfl dX11_oneOf_187 ?_
      refine at_iload (j := 5) hC rfl dX11_oneOf_188 ?_
      refine at_ishr hC dX11_oneOf_190 ?_
      refine at_iconst hC ic_1 dX11_oneOf_191 ?_
      refine at_iand hC dX11_oneOf_192 ?_
      refine at_iconst hC ic_1 dX11_oneOf_193 ?_
      refine at_icmp_ne (tgt := 218) hC dX11_oneOf_194 rfl (fun _ => ?_) (fun _ => ?_)
      · exact t_M_oneOf_J218 hC hR (M_oneOf_L181_r n) hk_181 σ a1 a2 a3 a4 a6
      · refine at_iload (j := 4) hC rfl dX11_oneOf_197 ?_
        refine at_if_le (tgt := 218) hC dX11_oneOf_199 rfl (fun _ => ?_) (fun _ => ?_)
        · exact t_M_oneOf_J218 hC hR (M_oneOf_L181_r n) hk_181 σ a1 a2 a3 a4 a6
        · refine at_iload (j := 5) hC rfl dX11_oneOf_202 ?_
          refine at_callSpN hC hR lk_X11_273 (c_M_word σ a6) dX11_oneOf_204 rfl rfl ⟨by decide, by decide⟩ (Nat.le_of_ble_eq_true rfl) ⟨Nat.le_refl 0, Nat.le_refl 0⟩ (fun r1 _ => ?_)
          refine at_strlen hC hR lkstr_X11_277 dX11_oneOf_207 (by decide) (Nat.le_of_ble_eq_true rfl) ⟨Nat.le_refl 0, Nat.le_refl 0⟩ (fun r2 => ?_)
          refine at_iload (j := 4) hC rfl dX11_oneOf_210 ?_
          refine at_icmp_ne (tgt := 218) hC dX11_oneOf_212 rfl (fun _ => ?_) (fun _ => ?_)
          · exact t_M_oneOf_J218 hC hR (M_oneOf_L181_r n) hk_181 σ a1 a2 a3 a4 a6
          · refine at_iload (j := 5) hC rfl dX11_oneOf_215 ?_
            exact at_iret (F := eqA ad) (ra := rI) hC dX11_oneOf_217 rfl (Nat.le_refl 0) (Nat.le_refl 0) rfl
set_option maxRecDepth 100000 in
theorem t_M_oneOf_J171 (hC : CX z ad x cX11_oneOf RX11 8 (some .int)) (hR : x.2.2.1 = rmk 5 0 0) (k_41 : MS → Int32 → Int32 → Int32 → Int32 → Int32 → Option (Int32 × MS)) (hk_41 : ∀ (σ : MS) (a1 : Int32) (a2 : Int32) (a3 : Int32) (a4 : Int32) (a5 : Int32), AT z x 8 (wM z τ) rI (eqA ad) 0 0 0 0 ad 41 [(0, .ref 0), (1, .int a1), (2, .int a2), (3, .int a3), (4, .int a4), (5, .int a5)] [] σ (k_41 σ a1 a2 a3 a4 a5)) (σ : MS) (a1 : Int32) (a2 : Int32) (a3 : Int32) (a4 : Int32) (a5 : Int32) (s0 : Int32) (s1 : Int32) : AT z x 8 (wM z τ) rI (eqA ad) 0 0 0 0 ad 171 [(0, .ref 0), (1, .int a1), (2, .int a2), (3, .int a3), (4, .int a4), (5, .int a5)] [.int s0, .int s1, .ref 0] σ (M_oneOf_J171 k_41 σ a1 a2 a3 a4 a5 s0 s1) := by
  unfold M_oneOf_J171
  refine at_iadd hC dX11_oneOf_171 ?_
  refine pf_X11_229 hC dX11_oneOf_172 ?_
  refine at_goto (tgt := 41) hC dX11_oneOf_175 rfl ?_
  exact hk_41 (sI σ 47 (s1 + s0)) a1 a2 a3 a4 a5
set_option maxRecDepth 100000 in
theorem t_M_oneOf_J153 (hC : CX z ad x cX11_oneOf RX11 8 (some .int)) (hR : x.2.2.1 = rmk 5 0 0) (k_41 : MS → Int32 → Int32 → Int32 → Int32 → Int32 → Option (Int32 × MS)) (hk_41 : ∀ (σ : MS) (a1 : Int32) (a2 : Int32) (a3 : Int32) (a4 : Int32) (a5 : Int32), AT z x 8 (wM z τ) rI (eqA ad) 0 0 0 0 ad 41 [(0, .ref 0), (1, .int a1), (2, .int a2), (3, .int a3), (4, .int a4), (5, .int a5)] [] σ (k_41 σ a1 a2 a3 a4 a5)) (σ : MS) (a1 : Int32) (a2 : Int32) (a3 : Int32) (a5 : Int32) (s0 : Int32) (s1 : Int32) : AT z x 8 (wM z τ) rI (eqA ad) 0 0 0 0 ad 153 [(0, .ref 0), (1, .int a1), (2, .int a2), (3, .int a3), (5, .int a5)] [.int s0, .int s1] σ (M_oneOf_J153 k_41 σ a1 a2 a3 a5 s0 s1) := by
  unfold M_oneOf_J153
  refine at_iadd hC dX11_oneOf_153 ?_
  refine at_istore (lv' := [(4, .int (s1 + s0)), (0, .ref 0), (1, .int a1), (2, .int a2), (3, .int a3), (5, .int a5)]) hC dX11_oneOf_154 (by decide) rfl ?_
  refine at_aload_n (j := 1) hC rfl rfl dX11_oneOf_156 ?_
  refine at_dup hC rfl dX11_oneOf_157 ?_
  refine gf_X11_229 hC dX11_oneOf_158 ?_
  refine at_iload (j := 5) hC rfl dX11_oneOf_161 ?_
  refine at_if_eq (tgt := 170) hC dX11_oneOf_163 rfl (fun _ => ?_) (fun _ => ?_)
  · refine at_iconst hC ic_0 dX11_oneOf_170 ?_
    refine at_drop (lv' := [(0, .ref 0), (1, .int a1), (2, .int a2), (3, .int a3), (4, .int (s1 + s0)), (5, .int a5)]) [1, 2, 3, 4, 0, 5] rfl ?_
    exact t_M_oneOf_J171 hC hR k_41 hk_41 σ a1 a2 a3 (s1 + s0) a5 0 (σ.1 47)
  · refine at_iconst hC ic_1 dX11_oneOf_166 ?_
    refine at_goto (tgt := 171) hC dX11_oneOf_167 rfl ?_
    refine at_drop (lv' := [(0, .ref 0), (1, .int a1), (2, .int a2), (3, .int a3), (4, .int (s1 + s0)), (5, .int a5)]) [1, 2, 3, 4, 0, 5] rfl ?_
    exact t_M_oneOf_J171 hC hR k_41 hk_41 σ a1 a2 a3 (s1 + s0) a5 1 (σ.1 47)
set_option maxRecDepth 100000 in
theorem t_M_oneOf_J140 (hC : CX z ad x cX11_oneOf RX11 8 (some .int)) (hR : x.2.2.1 = rmk 5 0 0) (k_41 : MS → Int32 → Int32 → Int32 → Int32 → Int32 → Option (Int32 × MS)) (hk_41 : ∀ (σ : MS) (a1 : Int32) (a2 : Int32) (a3 : Int32) (a4 : Int32) (a5 : Int32), AT z x 8 (wM z τ) rI (eqA ad) 0 0 0 0 ad 41 [(0, .ref 0), (1, .int a1), (2, .int a2), (3, .int a3), (4, .int a4), (5, .int a5)] [] σ (k_41 σ a1 a2 a3 a4 a5)) (σ : MS) (a1 : Int32) (a2 : Int32) (a4 : Int32) (a5 : Int32) (s0 : Int32) : AT z x 8 (wM z τ) rI (eqA ad) 0 0 0 0 ad 140 [(0, .ref 0), (1, .int a1), (2, .int a2), (4, .int a4), (5, .int a5)] [.int s0] σ (M_oneOf_J140 k_41 σ a1 a2 a4 a5 s0) := by
  unfold M_oneOf_J140
  refine at_istore_n (lv' := [(3, .int s0), (0, .ref 0), (1, .int a1), (2, .int a2), (4, .int a4), (5, .int a5)]) hC rfl dX11_oneOf_140 (by decide) rfl ?_
  refine at_iload (j := 4) hC rfl dX11_oneOf_141 ?_
  refine at_iload (j := 5) hC rfl dX11_oneOf_143 ?_
  refine at_if_eq (tgt := 152) hC dX11_oneOf_145 rfl (fun _ => ?_) (fun _ => ?_)
  · refine at_iconst hC ic_0 dX11_oneOf_152 ?_
    refine at_drop (lv' := [(0, .ref 0), (1, .int a1), (2, .int a2), (3, .int s0), (5, .int a5)]) [1, 2, 3, 0, 5] rfl ?_
    exact t_M_oneOf_J153 hC hR k_41 hk_41 σ a1 a2 s0 a5 0 a4
  · refine at_iconst hC ic_1 dX11_oneOf_148 ?_
    refine at_goto (tgt := 153) hC dX11_oneOf_149 rfl ?_
    refine at_drop (lv' := [(0, .ref 0), (1, .int a1), (2, .int a2), (3, .int s0), (5, .int a5)]) [1, 2, 3, 0, 5] rfl ?_
    exact t_M_oneOf_J153 hC hR k_41 hk_41 σ a1 a2 s0 a5 1 a4
set_option maxRecDepth 100000 in
theorem t_M_oneOf_J127 (hC : CX z ad x cX11_oneOf RX11 8 (some .int)) (hR : x.2.2.1 = rmk 5 0 0) (k_41 : MS → Int32 → Int32 → Int32 → Int32 → Int32 → Option (Int32 × MS)) (hk_41 : ∀ (σ : MS) (a1 : Int32) (a2 : Int32) (a3 : Int32) (a4 : Int32) (a5 : Int32), AT z x 8 (wM z τ) rI (eqA ad) 0 0 0 0 ad 41 [(0, .ref 0), (1, .int a1), (2, .int a2), (3, .int a3), (4, .int a4), (5, .int a5)] [] σ (k_41 σ a1 a2 a3 a4 a5)) (σ : MS) (a1 : Int32) (a2 : Int32) (a3 : Int32) (a4 : Int32) (a6 : Int32) (s0 : Int32) : AT z x 8 (wM z τ) rI (eqA ad) 0 0 0 0 ad 127 [(0, .ref 0), (1, .int a1), (2, .int a2), (3, .int a3), (4, .int a4), (6, .int a6)] [.int s0] σ (M_oneOf_J127 k_41 σ a1 a2 a3 a4 a6 s0) := by
  unfold M_oneOf_J127
  refine at_istore (lv' := [(5, .int s0), (0, .ref 0), (1, .int a1), (2, .int a2), (3, .int a3), (4, .int a4), (6, .int a6)]) hC dX11_oneOf_127 (by decide) rfl ?_
  refine at_iload (j := 0) hC rfl dX11_oneOf_129 ?_
  refine at_if_eq (tgt := 139) hC dX11_oneOf_131 rfl (fun _ => ?_) (fun _ => ?_)
  · refine at_iload_n (j := 4) hC rfl rfl dX11_oneOf_139 ?_
    refine at_drop (lv' := [(0, .ref 0), (1, .int a1), (2, .int a2), (4, .int a4), (5, .int s0)]) [1, 2, 3, 5, 0] rfl ?_
    exact t_M_oneOf_J140 hC hR k_41 hk_41 σ a1 a2 a4 s0 a3
  · refine at_iload (j := 6) hC rfl dX11_oneOf_134 ?_
    refine at_goto (tgt := 140) hC dX11_oneOf_136 rfl ?_
    refine at_drop (lv' := [(0, .ref 0), (1, .int a1), (2, .int a2), (4, .int a4), (5, .int s0)]) [1, 2, 3, 5, 0] rfl ?_
    exact t_M_oneOf_J140 hC hR k_41 hk_41 σ a1 a2 a4 s0 a6
set_option maxRecDepth 100000 in
theorem t_M_oneOf_J108 (hC : CX z ad x cX11_oneOf RX11 8 (some .int)) (hR : x.2.2.1 = rmk 5 0 0) (k_41 : MS → Int32 → Int32 → Int32 → Int32 → Int32 → Option (Int32 × MS)) (hk_41 : ∀ (σ : MS) (a1 : Int32) (a2 : Int32) (a3 : Int32) (a4 : Int32) (a5 : Int32), AT z x 8 (wM z τ) rI (eqA ad) 0 0 0 0 ad 41 [(0, .ref 0), (1, .int a1), (2, .int a2), (3, .int a3), (4, .int a4), (5, .int a5)] [] σ (k_41 σ a1 a2 a3 a4 a5)) (k_52 : MS → Int32 → Int32 → Int32 → Int32 → Int32 → Int32 → Option (Int32 × MS)) (hk_52 : ∀ (σ : MS) (a1 : Int32) (a2 : Int32) (a3 : Int32) (a4 : Int32) (a6 : Int32) (a7 : Int32), AT z x 8 (wM z τ) rI (eqA ad) 0 0 0 0 ad 52 [(0, .ref 0), (1, .int a1), (2, .int a2), (3, .int a3), (4, .int a4), (6, .int a6), (7, .int a7)] [] σ (k_52 σ a1 a2 a3 a4 a6 a7)) (σ : MS) (a1 : Int32) (a2 : Int32) (a3 : Int32) (a4 : Int32) (a7 : Int32) (s0 : Int32) (s1 : Int32) : AT z x 8 (wM z τ) rI (eqA ad) 0 0 0 0 ad 108 [(0, .ref 0), (1, .int a1), (2, .int a2), (3, .int a3), (4, .int a4), (7, .int a7)] [.int s0, .int s1] σ (M_oneOf_J108 k_41 k_52 σ a1 a2 a3 a4 a7 s0 s1) := by
  unfold M_oneOf_J108
  refine at_ior hC dX11_oneOf_108 ?_
  refine at_istore (lv' := [(6, .int (s1 ||| s0)), (0, .ref 0), (1, .int a1), (2, .int a2), (3, .int a3), (4, .int a4), (7, .int a7)]) hC dX11_oneOf_109 (by decide) rfl ?_
  refine at_iinc (j := 6) (v := a7 + 1) (lv' := [(7, .int (a7 + 1)), (6, .int (s1 ||| s0)), (0, .ref 0), (1, .int a1), (2, .int a2), (3, .int a3), (4, .int a4)]) hC dX11_oneOf_111 rfl rfl (by decide) rfl ?_
  refine at_goto (tgt := 52) hC dX11_oneOf_114 rfl ?_
  refine at_drop (lv' := [(0, .ref 0), (1, .int a1), (2, .int a2), (3, .int a3), (4, .int a4), (6, .int (s1 ||| s0)), (7, .int (a7 + 1))]) [2, 3, 4, 5, 6, 1, 0] rfl ?_
  exact hk_52 σ a1 a2 a3 a4 (s1 ||| s0) (a7 + 1)
set_option maxRecDepth 100000 in
theorem t_M_oneOf_J107 (hC : CX z ad x cX11_oneOf RX11 8 (some .int)) (hR : x.2.2.1 = rmk 5 0 0) (k_41 : MS → Int32 → Int32 → Int32 → Int32 → Int32 → Option (Int32 × MS)) (hk_41 : ∀ (σ : MS) (a1 : Int32) (a2 : Int32) (a3 : Int32) (a4 : Int32) (a5 : Int32), AT z x 8 (wM z τ) rI (eqA ad) 0 0 0 0 ad 41 [(0, .ref 0), (1, .int a1), (2, .int a2), (3, .int a3), (4, .int a4), (5, .int a5)] [] σ (k_41 σ a1 a2 a3 a4 a5)) (k_52 : MS → Int32 → Int32 → Int32 → Int32 → Int32 → Int32 → Option (Int32 × MS)) (hk_52 : ∀ (σ : MS) (a1 : Int32) (a2 : Int32) (a3 : Int32) (a4 : Int32) (a6 : Int32) (a7 : Int32), AT z x 8 (wM z τ) rI (eqA ad) 0 0 0 0 ad 52 [(0, .ref 0), (1, .int a1), (2, .int a2), (3, .int a3), (4, .int a4), (6, .int a6), (7, .int a7)] [] σ (k_52 σ a1 a2 a3 a4 a6 a7)) (σ : MS) (a1 : Int32) (a2 : Int32) (a3 : Int32) (a4 : Int32) (a7 : Int32) (s0 : Int32) : AT z x 8 (wM z τ) rI (eqA ad) 0 0 0 0 ad 107 [(0, .ref 0), (1, .int a1), (2, .int a2), (3, .int a3), (4, .int a4), (7, .int a7)] [.int s0] σ (M_oneOf_J107 k_41 k_52 σ a1 a2 a3 a4 a7 s0) := by
  unfold M_oneOf_J107
  refine at_iconst hC ic_0 dX11_oneOf_107 ?_
  exact t_M_oneOf_J108 hC hR k_41 hk_41 k_52 hk_52 σ a1 a2 a3 a4 a7 0 s0
set_option maxRecDepth 100000 in
theorem t_M_oneOf_L52 (hC : CX z ad x cX11_oneOf RX11 8 (some .int)) (hR : x.2.2.1 = rmk 5 0 0) (k_41 : MS → Int32 → Int32 → Int32 → Int32 → Int32 → Option (Int32 × MS)) (hk_41 : ∀ (σ : MS) (a1 : Int32) (a2 : Int32) (a3 : Int32) (a4 : Int32) (a5 : Int32), AT z x 8 (wM z τ) rI (eqA ad) 0 0 0 0 ad 41 [(0, .ref 0), (1, .int a1), (2, .int a2), (3, .int a3), (4, .int a4), (5, .int a5)] [] σ (k_41 σ a1 a2 a3 a4 a5)) (n : Nat) (σ : MS) (a1 : Int32) (a2 : Int32) (a3 : Int32) (a4 : Int32) (a6 : Int32) (a7 : Int32) : AT z x 8 (wM z τ) rI (eqA ad) 0 0 0 0 ad 52 [(0, .ref 0), (1, .int a1), (2, .int a2), (3, .int a3), (4, .int a4), (6, .int a6), (7, .int a7)] [] σ (M_oneOf_L52 k_41 n σ a1 a2 a3 a4 a6 a7) := by
  revert σ a1 a2 a3 a4 a6 a7
  show ∀ (σ : MS) (a1 : Int32) (a2 : Int32) (a3 : Int32) (a4 : Int32) (a6 : Int32) (a7 : Int32), AT z x 8 (wM z τ) rI (eqA ad) 0 0 0 0 ad 52 [(0, .ref 0), (1, .int a1), (2, .int a2), (3, .int a3), (4, .int a4), (6, .int a6), (7, .int a7)] [] σ (M_oneOf_L52_r k_41 n σ a1 a2 a3 a4 a6 a7)
  induction n with
  | zero => intro σ a1 a2 a3 a4 a6 a7; exact at_none
  | succ n hk_52 =>
    intro σ a1 a2 a3 a4 a6 a7
    unfold M_oneOf_L52_r
    refine at_iload (j := 6) hC rfl dX11_oneOf_52 ?_
    refine at_iload_n (j := 2) hC rfl rfl dX11_oneOf_54 ?_
    refine at_icmp_gt (tgt := 117) hC dX11_oneOf_55 rfl (fun _ => ?_) (fun _ => ?_)
    · refine at_iload (j := 5) hC rfl dX11_oneOf_117 ?_
      refine at_if_eq (tgt := 126) hC dX11_oneOf_119 rfl (fun _ => ?_) (fun _ => ?_)
      · refine at_iconst hC ic_0 dX11_oneOf_126 ?_
        refine at_drop (lv' := [(0, .ref 0), (1, .int a1), (2, .int a2), (3, .int a3), (4, .int a4), (6, .int a6)]) [0, 1, 2, 3, 4, 5] rfl ?_
        exact t_M_oneOf_J127 hC hR k_41 hk_41 σ a1 a2 a3 a4 a6 0
      · refine at_iconst hC ic_1 dX11_oneOf_122 ?_
        refine at_goto (tgt := 127) hC dX11_oneOf_123 rfl ?_
        refine at_drop (lv' := [(0, .ref 0), (1, .int a1), (2, .int a2), (3, .int a3), (4, .int a4), (6, .int a6)]) [0, 1, 2, 3, 4, 5] rfl ?_
        exact t_M_oneOf_J127 hC hR k_41 hk_41 σ a1 a2 a3 a4 a6 1
    · refine at_iload (j := 5) hC rfl dX11_oneOf_58 ?_
      refine at_iload_n (j := 3) hC rfl rfl dX11_oneOf_60 ?_
      refine at_iload (j := 6) hC rfl dX11_oneOf_61 ?_
      refine at_ishr hC dX11_oneOf_63 ?_
      refine at_iconst hC ic_1 dX11_oneOf_64 ?_
      refine at_iand hC dX11_oneOf_65 ?_
      refine at_iconst hC ic_1 dX11_oneOf_66 ?_
      refine at_icmp_ne (tgt := 107) hC dX11_oneOf_67 rfl (fun _ => ?_) (fun _ => ?_)
      · refine at_drop (lv' := [(0, .ref 0), (1, .int a1), (2, .int a2), (3, .int a3), (4, .int a4), (7, .int a7)]) [0, 1, 2, 3, 4, 6] rfl ?_
        exact t_M_oneOf_J107 hC hR k_41 hk_41 (M_oneOf_L52_r k_41 n) hk_52 σ a1 a2 a3 a4 a7 a6
      · refine at_iload (j := 4) hC rfl dX11_oneOf_70 ?_
        refine at_iload (j := 6) hC rfl dX11_oneOf_72 ?_
        refine at_callSpN hC hR lk_X11_273 (c_M_word σ a7) dX11_oneOf_74 rfl rfl ⟨by decide, by decide⟩ (Nat.le_of_ble_eq_true rfl) ⟨Nat.le_refl 0, Nat.le_refl 0⟩ (fun r3 _ => ?_)
        refine at_strlen hC hR lkstr_X11_277 dX11_oneOf_77 (by decide) (Nat.le_of_ble_eq_true rfl) ⟨Nat.le_refl 0, Nat.le_refl 0⟩ (fun r4 => ?_)
        refine at_icmp_ge (tgt := 107) hC dX11_oneOf_80 rfl (fun _ => ?_) (fun _ => ?_)
        · refine at_drop (lv' := [(0, .ref 0), (1, .int a1), (2, .int a2), (3, .int a3), (4, .int a4), (7, .int a7)]) [0, 1, 2, 3, 4, 6] rfl ?_
          exact t_M_oneOf_J107 hC hR k_41 hk_41 (M_oneOf_L52_r k_41 n) hk_52 σ a1 a2 a3 a4 a7 a6
        · refine at_iload (j := 6) hC rfl dX11_oneOf_83 ?_
          refine at_callSpN hC hR lk_X11_273 (c_M_word σ a7) dX11_oneOf_85 rfl rfl ⟨by decide, by decide⟩ (Nat.le_of_ble_eq_true rfl) ⟨Nat.le_refl 0, Nat.le_refl 0⟩ (fun r5 _ => ?_)
          refine at_iload (j := 4) hC rfl dX11_oneOf_88 ?_
          refine at_strchar hC hR lkstr_X11_282 dX11_oneOf_90 (by decide) (Nat.le_of_ble_eq_true rfl) ⟨Nat.le_refl 0, Nat.le_refl 0⟩ (fun r6 => ?_)
          refine at_aload_n (j := 0) hC rfl rfl dX11_oneOf_93 ?_
          refine at_callVpI hC hR lk_X11_239 (c_M_byteAt σ) dX11_oneOf_94 recX11 rfl rfl ⟨by decide, by decide⟩ (Nat.le_of_ble_eq_true rfl) ⟨Nat.le_refl 0, Nat.le_refl 0⟩ (fun r7 _ => ?_)
          refine at_icmp_ne (tgt := 107) hC dX11_oneOf_97 rfl (fun _ => ?_) (fun _ => ?_)
          · refine at_drop (lv' := [(0, .ref 0), (1, .int a1), (2, .int a2), (3, .int a3), (4, .int a4), (7, .int a7)]) [0, 1, 2, 3, 4, 6] rfl ?_
            exact t_M_oneOf_J107 hC hR k_41 hk_41 (M_oneOf_L52_r k_41 n) hk_52 σ a1 a2 a3 a4 a7 a6
          · refine at_iconst hC ic_1 dX11_oneOf_100 ?_
            refine at_iload (j := 6) hC rfl dX11_oneOf_101 ?_
            refine at_ishl hC dX11_oneOf_103 ?_
            refine at_goto (tgt := 108) hC dX11_oneOf_104 rfl ?_
            refine at_drop (lv' := [(0, .ref 0), (1, .int a1), (2, .int a2), (3, .int a3), (4, .int a4), (7, .int a7)]) [0, 1, 2, 3, 4, 6] rfl ?_
            exact t_M_oneOf_J108 hC hR k_41 hk_41 (M_oneOf_L52_r k_41 n) hk_52 σ a1 a2 a3 a4 a7 (1 <<< (a7 &&& 31)) a6
set_option maxRecDepth 100000 in
theorem t_M_oneOf_L41 (hC : CX z ad x cX11_oneOf RX11 8 (some .int)) (hR : x.2.2.1 = rmk 5 0 0) (n : Nat) (σ : MS) (a1 : Int32) (a2 : Int32) (a3 : Int32) (a4 : Int32) (a5 : Int32) : AT z x 8 (wM z τ) rI (eqA ad) 0 0 0 0 ad 41 [(0, .ref 0), (1, .int a1), (2, .int a2), (3, .int a3), (4, .int a4), (5, .int a5)] [] σ (M_oneOf_L41 n σ a1 a2 a3 a4 a5) := by
  revert σ a1 a2 a3 a4 a5
  show ∀ (σ : MS) (a1 : Int32) (a2 : Int32) (a3 : Int32) (a4 : Int32) (a5 : Int32), AT z x 8 (wM z τ) rI (eqA ad) 0 0 0 0 ad 41 [(0, .ref 0), (1, .int a1), (2, .int a2), (3, .int a3), (4, .int a4), (5, .int a5)] [] σ (M_oneOf_L41_r n σ a1 a2 a3 a4 a5)
  induction n with
  | zero => intro σ a1 a2 a3 a4 a5; exact at_none
  | succ n hk_41 =>
    intro σ a1 a2 a3 a4 a5
    unfold M_oneOf_L41_r
    refine at_iload (j := 5) hC rfl dX11_oneOf_41 ?_
    refine at_if_eq (tgt := 178) hC dX11_oneOf_43 rfl (fun _ => ?_) (fun _ => ?_)
    · refine at_iload_n (j := 1) hC rfl rfl dX11_oneOf_178 ?_
      refine at_istore (lv' := [(6, .int a1), (0, .ref 0), (1, .int a1), (2, .int a2), (3, .int a3), (4, .int a4), (5, .int a5)]) hC dX11_oneOf_179 (by decide) rfl ?_
      refine at_drop (lv' := [(0, .ref 0), (1, .int a1), (2, .int a2), (3, .int a3), (4, .int a4), (6, .int a1)]) [1, 2, 3, 4, 5, 0] rfl ?_
      exact t_M_oneOf_L181 hC hR 100000 σ a1 a2 a3 a4 a1
    · refine at_iconst hC ic_0 dX11_oneOf_46 ?_
      refine at_istore (lv' := [(6, .int 0), (0, .ref 0), (1, .int a1), (2, .int a2), (3, .int a3), (4, .int a4), (5, .int a5)]) hC dX11_oneOf_47 (by decide) rfl ?_
      refine at_iload_n (j := 2) hC rfl rfl dX11_oneOf_49 ?_
      refine at_istore (lv' := [(7, .int a1), (6, .int 0), (0, .ref 0), (1, .int a1), (2, .int a2), (3, .int a3), (4, .int a4), (5, .int a5)]) hC dX11_oneOf_50 (by decide) rfl ?_
      refine at_drop (lv' := [(0, .ref 0), (1, .int a1), (2, .int a2), (3, .int a3), (4, .int a4), (6, .int 0), (7, .int a1)]) [2, 3, 4, 5, 6, 1, 0] rfl ?_
      exact t_M_oneOf_L52 hC hR (M_oneOf_L41_r n) hk_41 100000 σ a1 a2 a3 a4 0 a1
set_option maxRecDepth 100000 in
theorem t_M_oneOf_J39 (hC : CX z ad x cX11_oneOf RX11 8 (some .int)) (hR : x.2.2.1 = rmk 5 0 0) (σ : MS) (a1 : Int32) (a2 : Int32) (a3 : Int32) (a4 : Int32) (s0 : Int32) : AT z x 8 (wM z τ) rI (eqA ad) 0 0 0 0 ad 39 [(0, .ref 0), (1, .int a1), (2, .int a2), (3, .int a3), (4, .int a4)] [.int s0] σ (M_oneOf_J39 σ a1 a2 a3 a4 s0) := by
  unfold M_oneOf_J39
  refine at_istore (lv' := [(5, .int s0), (0, .ref 0), (1, .int a1), (2, .int a2), (3, .int a3), (4, .int a4)]) hC dX11_oneOf_39 (by decide) rfl ?_
  refine at_drop (lv' := [(0, .ref 0), (1, .int a1), (2, .int a2), (3, .int a3), (4, .int a4), (5, .int s0)]) [1, 2, 3, 4, 5, 0] rfl ?_
  exact t_M_oneOf_L41 hC hR 100000 σ a1 a2 a3 a4 s0
set_option maxRecDepth 100000 in
theorem t_M_oneOf_L5 (hC : CX z ad x cX11_oneOf RX11 8 (some .int)) (hR : x.2.2.1 = rmk 5 0 0) (n : Nat) (σ : MS) (a1 : Int32) (a2 : Int32) (a3 : Int32) (a4 : Int32) : AT z x 8 (wM z τ) rI (eqA ad) 0 0 0 0 ad 5 [(0, .ref 0), (1, .int a1), (2, .int a2), (3, .int a3), (4, .int a4)] [] σ (M_oneOf_L5 n σ a1 a2 a3 a4) := by
  revert σ a1 a2 a3 a4
  show ∀ (σ : MS) (a1 : Int32) (a2 : Int32) (a3 : Int32) (a4 : Int32), AT z x 8 (wM z τ) rI (eqA ad) 0 0 0 0 ad 5 [(0, .ref 0), (1, .int a1), (2, .int a2), (3, .int a3), (4, .int a4)] [] σ (M_oneOf_L5_r n σ a1 a2 a3 a4)
  induction n with
  | zero => intro σ a1 a2 a3 a4; exact at_none
  | succ n hk_5 =>
    intro σ a1 a2 a3 a4
    unfold M_oneOf_L5_r
    refine at_iload (j := 4) hC rfl dX11_oneOf_5 ?_
    refine at_iload_n (j := 2) hC rfl rfl dX11_oneOf_7 ?_
    refine at_icmp_gt (tgt := 24) hC dX11_oneOf_8 rfl (fun _ => ?_) (fun _ => ?_)
    · refine at_iconst hC ic_0 dX11_oneOf_24 ?_
      refine at_istore (lv' := [(4, .int 0), (0, .ref 0), (1, .int a1), (2, .int a2), (3, .int a3)]) hC dX11_oneOf_25 (by decide) rfl ?_
      refine at_aload_n (j := 1) hC rfl rfl dX11_oneOf_27 ?_
      refine gf_X11_235 hC dX11_oneOf_28 ?_
      refine at_if_ne (tgt := 38) hC dX11_oneOf_31 rfl (fun _ => ?_) (fun _ => ?_)
      · refine at_iconst hC ic_0 dX11_oneOf_38 ?_
        refine at_drop (lv' := [(0, .ref 0), (1, .int a1), (2, .int a2), (3, .int a3), (4, .int 0)]) [1, 2, 3, 4, 0] rfl ?_
        exact t_M_oneOf_J39 hC hR σ a1 a2 a3 0 0
      · refine at_iconst hC ic_1 dX11_oneOf_34 ?_
        refine at_goto (tgt := 39) hC dX11_oneOf_35 rfl ?_
        refine at_drop (lv' := [(0, .ref 0), (1, .int a1), (2, .int a2), (3, .int a3), (4, .int 0)]) [1, 2, 3, 4, 0] rfl ?_
        exact t_M_oneOf_J39 hC hR σ a1 a2 a3 0 1
    · refine at_iload_n (j := 3) hC rfl rfl dX11_oneOf_11 ?_
      refine at_iconst hC ic_1 dX11_oneOf_12 ?_
      refine at_iload (j := 4) hC rfl dX11_oneOf_13 ?_
      refine at_ishl hC dX11_oneOf_15 ?_
      refine at_ior hC dX11_oneOf_16 ?_
      refine at_istore_n (lv' := [(3, .int (a3 ||| (1 <<< (a4 &&& 31)))), (0, .ref 0), (1, .int a1), (2, .int a2), (4, .int a4)]) hC rfl dX11_oneOf_17 (by decide) rfl ?_
      refine at_iinc (j := 4) (v := a4 + 1) (lv' := [(4, .int (a4 + 1)), (3, .int (a3 ||| (1 <<< (a4 &&& 31)))), (0, .ref 0), (1, .int a1), (2, .int a2)]) hC dX11_oneOf_18 rfl rfl (by decide) rfl ?_
      refine at_goto (tgt := 5) hC dX11_oneOf_21 rfl ?_
      refine at_drop (lv' := [(0, .ref 0), (1, .int a1), (2, .int a2), (3, .int (a3 ||| (1 <<< (a4 &&& 31)))), (4, .int (a4 + 1))]) [2, 3, 4, 1, 0] rfl ?_
      exact hk_5 σ a1 a2 (a3 ||| (1 <<< (a4 &&& 31))) (a4 + 1)
set_option maxRecDepth 100000 in
theorem c_M_oneOf (σ : MS) (p0 : Int32) (p1 : Int32) : Ct z (wM z τ) rI eqA yX11_oneOf cX11_oneOf 8 (some .int) 5 0 0 [.ref 0, .int p0, .int p1] σ (M_oneOf σ p0 p1) := by
  refine Ct.of (by decide) (Nat.le_of_ble_eq_true rfl) (fun ad x hC hR _ => ?_)
  show AT z x 8 (wM z τ) rI (eqA ad) 0 0 0 0 ad 0 [(0, .ref 0), (1, .int p0), (2, .int p1)] [] σ (M_oneOf σ p0 p1)
  unfold M_oneOf
  refine at_iconst hC ic_0 dX11_oneOf_0 ?_
  refine at_istore_n (lv' := [(3, .int 0), (0, .ref 0), (1, .int p0), (2, .int p1)]) hC rfl dX11_oneOf_1 (by decide) rfl ?_
  refine at_iload_n (j := 2) hC rfl rfl dX11_oneOf_2 ?_
  refine at_istore (lv' := [(4, .int p0), (3, .int 0), (0, .ref 0), (1, .int p0), (2, .int p1)]) hC dX11_oneOf_3 (by decide) rfl ?_
  refine at_drop (lv' := [(0, .ref 0), (1, .int p0), (2, .int p1), (3, .int 0), (4, .int p0)]) [2, 3, 4, 1, 0] rfl ?_
  exact t_M_oneOf_L5 hC hR 100000 σ p0 p1 0 p0
theorem dX11_one_0 : decode cX11_one 0 = .ok (.aload_n 0, 1) := by decide +kernel
theorem dX11_one_1 : decode cX11_one 1 = .ok (.getfield 235, 3) := by decide +kernel
theorem dX11_one_4 : decode cX11_one 4 = .ok (.ifCond .eq 5, 3) := by decide +kernel
theorem dX11_one_7 : decode cX11_one 7 = .ok (.iconst 0, 1) := by decide +kernel
theorem dX11_one_8 : decode cX11_one 8 = .ok (.ireturn, 1) := by decide +kernel
theorem dX11_one_9 : decode cX11_one 9 = .ok (.aload_n 0, 1) := by decide +kernel
theorem dX11_one_10 : decode cX11_one 10 = .ok (.invokevirtual 286, 3) := by decide +kernel
theorem dX11_one_13 : decode cX11_one 13 = .ok (.ifCond .eq 8, 3) := by decide +kernel
theorem dX11_one_16 : decode cX11_one 16 = .ok (.aload_n 0, 1) := by decide +kernel
theorem dX11_one_17 : decode cX11_one 17 = .ok (.invokevirtual 290, 3) := by decide +kernel
theorem dX11_one_20 : decode cX11_one 20 = .ok (.ireturn, 1) := by decide +kernel
theorem dX11_one_21 : decode cX11_one 21 = .ok (.aload_n 0, 1) := by decide +kernel
theorem dX11_one_22 : decode cX11_one 22 = .ok (.invokevirtual 239, 3) := by decide +kernel
theorem dX11_one_25 : decode cX11_one 25 = .ok (.bipush 40, 2) := by decide +kernel
theorem dX11_one_27 : decode cX11_one 27 = .ok (.if_icmp .ne 26, 3) := by decide +kernel
theorem dX11_one_30 : decode cX11_one 30 = .ok (.aload_n 0, 1) := by decide +kernel
theorem dX11_one_31 : decode cX11_one 31 = .ok (.dup, 1) := by decide +kernel
theorem dX11_one_32 : decode cX11_one 32 = .ok (.getfield 229, 3) := by decide +kernel
theorem dX11_one_35 : decode cX11_one 35 = .ok (.iconst 1, 1) := by decide +kernel
theorem dX11_one_36 : decode cX11_one 36 = .ok (.iadd, 1) := by decide +kernel
theorem dX11_one_37 : decode cX11_one 37 = .ok (.putfield 229, 3) := by decide +kernel
theorem dX11_one_40 : decode cX11_one 40 = .ok (.aload_n 0, 1) := by decide +kernel
theorem dX11_one_41 : decode cX11_one 41 = .ok (.invokevirtual 293, 3) := by decide +kernel
theorem dX11_one_44 : decode cX11_one 44 = .ok (.istore_n 1, 1) := by decide +kernel
theorem dX11_one_45 : decode cX11_one 45 = .ok (.aload_n 0, 1) := by decide +kernel
theorem dX11_one_46 : decode cX11_one 46 = .ok (.bipush 41, 2) := by decide +kernel
theorem dX11_one_48 : decode cX11_one 48 = .ok (.invokevirtual 296, 3) := by decide +kernel
theorem dX11_one_51 : decode cX11_one 51 = .ok (.iload_n 1, 1) := by decide +kernel
theorem dX11_one_52 : decode cX11_one 52 = .ok (.ireturn, 1) := by decide +kernel
theorem dX11_one_53 : decode cX11_one 53 = .ok (.aload_n 0, 1) := by decide +kernel
theorem dX11_one_54 : decode cX11_one 54 = .ok (.bipush 10, 2) := by decide +kernel
theorem dX11_one_56 : decode cX11_one 56 = .ok (.bipush 14, 2) := by decide +kernel
theorem dX11_one_58 : decode cX11_one 58 = .ok (.invokevirtual 299, 3) := by decide +kernel
theorem dX11_one_61 : decode cX11_one 61 = .ok (.istore_n 1, 1) := by decide +kernel
theorem dX11_one_62 : decode cX11_one 62 = .ok (.aload_n 0, 1) := by decide +kernel
theorem dX11_one_63 : decode cX11_one 63 = .ok (.getfield 117, 3) := by decide +kernel
theorem dX11_one_66 : decode cX11_one 66 = .ok (.iload_n 1, 1) := by decide +kernel
theorem dX11_one_67 : decode cX11_one 67 = .ok (.bipush 10, 2) := by decide +kernel
theorem dX11_one_69 : decode cX11_one 69 = .ok (.isub, 1) := by decide +kernel
theorem dX11_one_70 : decode cX11_one 70 = .ok (.iaload, 1) := by decide +kernel
theorem dX11_one_71 : decode cX11_one 71 = .ok (.ireturn, 1) := by decide +kernel
set_option maxRecDepth 100000 in
theorem c_M_one (o : MS → Option (Int32 × MS)) {hO : Nat} (ho : ∀ σ : MS, Ct z (wM z τ) rI eqA yX11_sums cX11_sums 4 (some .int) (10 + hO) 0 0 [.ref 0] σ (o σ)) (σ : MS) : Ct z (wM z τ) rI eqA yX11_one cX11_one 2 (some .int) (10 + hO + 1) 0 0 [.ref 0] σ (M_one o σ) := by
  refine Ct.of (by decide) (Nat.le_of_ble_eq_true rfl) (fun ad x hC hR _ => ?_)
  show AT z x 2 (wM z τ) rI (eqA ad) 0 0 0 0 ad 0 [(0, .ref 0)] [] σ (M_one o σ)
  unfold M_one
  refine at_aload_n (j := 0) hC rfl rfl dX11_one_0 ?_
  refine gf_X11_235 hC dX11_one_1 ?_
  refine at_if_eq (tgt := 9) hC dX11_one_4 rfl (fun _ => ?_) (fun _ => ?_)
  · refine at_aload_n (j := 0) hC rfl rfl dX11_one_9 ?_
    refine at_callVpI hC hR lk_X11_286 (c_M_isDigit σ) dX11_one_10 recX11 rfl rfl ⟨by omega, by decide⟩ (Nat.le_of_ble_eq_true rfl) ⟨Nat.le_refl 0, Nat.le_refl 0⟩ (fun r1 _ => ?_)
    refine at_if_eq (tgt := 21) hC dX11_one_13 rfl (fun _ => ?_) (fun _ => ?_)
    · refine at_aload_n (j := 0) hC rfl rfl dX11_one_21 ?_
      refine at_callVpI hC hR lk_X11_239 (c_M_byteAt σ) dX11_one_22 recX11 rfl rfl ⟨by omega, by decide⟩ (Nat.le_of_ble_eq_true rfl) ⟨Nat.le_refl 0, Nat.le_refl 0⟩ (fun r2 _ => ?_)
      refine at_bipush hC bi_40 dX11_one_25 ?_
      refine at_icmp_ne (tgt := 53) hC dX11_one_27 rfl (fun _ => ?_) (fun _ => ?_)
      · refine at_aload_n (j := 0) hC rfl rfl dX11_one_53 ?_
        refine at_bipush hC bi_10 dX11_one_54 ?_
        refine at_bipush hC bi_14 dX11_one_56 ?_
        refine at_callVI hC hR lk_X11_299 (c_M_oneOf σ 10 14) dX11_one_58 recX11 rfl rfl ⟨by omega, by decide⟩ (Nat.le_of_ble_eq_true rfl) ⟨Nat.le_refl 0, Nat.le_refl 0⟩ (fun r3 r3s _ => ?_)
        refine at_istore_n (lv' := [(1, .int r3), (0, .ref 0)]) hC rfl dX11_one_61 (by decide) rfl ?_
        refine at_aload_n (j := 1) hC rfl rfl dX11_one_62 ?_
        refine gf_X11_117 hC dX11_one_63 ?_
        refine at_iload_n (j := 0) hC rfl rfl dX11_one_66 ?_
        refine at_bipush hC bi_10 dX11_one_67 ?_
        refine at_isub hC dX11_one_69 ?_
        refine at_iald hC 34 dX11_one_70 cl_34 (fun v4 => ?_)
        exact at_iret (F := eqA ad) (ra := rI) hC dX11_one_71 rfl (Nat.le_refl 0) (Nat.le_refl 0) rfl
      · refine at_aload_n (j := 0) hC rfl rfl dX11_one_30 ?_
        refine at_dup hC rfl dX11_one_31 ?_
        refine gf_X11_229 hC dX11_one_32 ?_
        refine at_iconst hC ic_1 dX11_one_35 ?_
        refine at_iadd hC dX11_one_36 ?_
        refine pf_X11_229 hC dX11_one_37 ?_
        refine at_aload_n (j := 0) hC rfl rfl dX11_one_40 ?_
        refine at_callVI hC hR lk_X11_293 (ho (sI σ 47 ((σ.1 47) + 1))) dX11_one_41 recX11 rfl rfl ⟨Nat.le_refl _, by decide⟩ (Nat.le_of_ble_eq_true rfl) ⟨Nat.le_refl 0, Nat.le_refl 0⟩ (fun r5 r5s _ => ?_)
        refine at_istore_n (lv' := [(1, .int r5), (0, .ref 0)]) hC rfl dX11_one_44 (by decide) rfl ?_
        refine at_aload_n (j := 1) hC rfl rfl dX11_one_45 ?_
        refine at_bipush hC bi_41 dX11_one_46 ?_
        refine at_callVU hC hR lk_X11_296 (c_M_must r5s 41) dX11_one_48 recX11 rfl rfl ⟨by omega, by decide⟩ (Nat.le_of_ble_eq_true rfl) ⟨Nat.le_refl 0, Nat.le_refl 0⟩ (fun r6 r6s _ => ?_)
        refine at_iload_n (j := 0) hC rfl rfl dX11_one_51 ?_
        exact at_iret (F := eqA ad) (ra := rI) hC dX11_one_52 rfl (Nat.le_refl 0) (Nat.le_refl 0) rfl
    · refine at_aload_n (j := 0) hC rfl rfl dX11_one_16 ?_
      refine at_callVI hC hR lk_X11_290 (c_M_number σ) dX11_one_17 recX11 rfl rfl ⟨by omega, by decide⟩ (Nat.le_of_ble_eq_true rfl) ⟨Nat.le_refl 0, Nat.le_refl 0⟩ (fun r7 r7s _ => ?_)
      exact at_iret (F := eqA ad) (ra := rI) hC dX11_one_20 rfl (Nat.le_refl 0) (Nat.le_refl 0) rfl
  · refine at_iconst hC ic_0 dX11_one_7 ?_
    exact at_iret (F := eqA ad) (ra := rI) hC dX11_one_8 rfl (Nat.le_refl 0) (Nat.le_refl 0) rfl
end G
