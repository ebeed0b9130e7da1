section G
variable {z : ZZ} {x : XX} {ad : Nat → Nat} {τ : XS}
theorem dX11_term_0 : decode cX11_term 0 = .ok (.aload_n 0, 1) := by decide +kernel
theorem dX11_term_1 : decode cX11_term 1 = .ok (.invokevirtual 302, 3) := by decide +kernel
theorem dX11_term_4 : decode cX11_term 4 = .ok (.istore_n 1, 1) := by decide +kernel
theorem dX11_term_5 : decode cX11_term 5 = .ok (.aload_n 0, 1) := by decide +kernel
theorem dX11_term_6 : decode cX11_term 6 = .ok (.getfield 235, 3) := by decide +kernel
theorem dX11_term_9 : decode cX11_term 9 = .ok (.ifCond .ne 32, 3) := by decide +kernel
theorem dX11_term_12 : decode cX11_term 12 = .ok (.aload_n 0, 1) := by decide +kernel
theorem dX11_term_13 : decode cX11_term 13 = .ok (.invokevirtual 239, 3) := by decide +kernel
theorem dX11_term_16 : decode cX11_term 16 = .ok (.bipush 42, 2) := by decide +kernel
theorem dX11_term_18 : decode cX11_term 18 = .ok (.if_icmp .ne 23, 3) := by decide +kernel
theorem dX11_term_21 : decode cX11_term 21 = .ok (.aload_n 0, 1) := by decide +kernel
theorem dX11_term_22 : decode cX11_term 22 = .ok (.dup, 1) := by decide +kernel
theorem dX11_term_23 : decode cX11_term 23 = .ok (.getfield 229, 3) := by decide +kernel
theorem dX11_term_26 : decode cX11_term 26 = .ok (.iconst 1, 1) := by decide +kernel
theorem dX11_term_27 : decode cX11_term 27 = .ok (.iadd, 1) := by decide +kernel
theorem dX11_term_28 : decode cX11_term 28 = .ok (.putfield 229, 3) := by decide +kernel
theorem dX11_term_31 : decode cX11_term 31 = .ok (.iload_n 1, 1) := by decide +kernel
theorem dX11_term_32 : decode cX11_term 32 = .ok (.aload_n 0, 1) := by decide +kernel
theorem dX11_term_33 : decode cX11_term 33 = .ok (.invokevirtual 302, 3) := by decide +kernel
theorem dX11_term_36 : decode cX11_term 36 = .ok (.imul, 1) := by decide +kernel
theorem dX11_term_37 : decode cX11_term 37 = .ok (.istore_n 1, 1) := by decide +kernel
theorem dX11_term_38 : decode cX11_term 38 = .ok (.goto (-33), 3) := by decide +kernel
theorem dX11_term_41 : decode cX11_term 41 = .ok (.iload_n 1, 1) := by decide +kernel
theorem dX11_term_42 : decode cX11_term 42 = .ok (.ireturn, 1) := by decide +kernel
set_option maxRecDepth 100000 in
theorem t_M_term_L5 (o : MS → Option (Int32 × MS)) {hO : Nat} (ho : ∀ σ : MS, Ct z (wM z τ) rI eqA yX11_one cX11_one 2 (some .int) (10 + hO) 0 0 [.ref 0] σ (o σ)) (hC : CX z ad x cX11_term RX11 2 (some .int)) (hR : x.2.2.1 = rmk (10 + hO + 1) 0 0) (n : Nat) (σ : MS) (a1 : Int32) : AT z x 2 (wM z τ) rI (eqA ad) 0 0 0 0 ad 5 [(0, .ref 0), (1, .int a1)] [] σ (M_term_L5 o n σ a1) := by
  revert σ a1
  show ∀ (σ : MS) (a1 : Int32), AT z x 2 (wM z τ) rI (eqA ad) 0 0 0 0 ad 5 [(0, .ref 0), (1, .int a1)] [] σ (M_term_L5_r o n σ a1)
  induction n with
  | zero => intro σ a1; exact at_none
  | succ n hk_5 =>
    intro σ a1
    unfold M_term_L5_r
    refine at_aload_n (j := 0) hC rfl rfl dX11_term_5 ?_
    refine gf_X11_235 hC dX11_term_6 ?_
    refine at_if_ne (tgt := 41) hC dX11_term_9 rfl (fun _ => ?_) (fun _ => ?_)
    · refine at_iload_n (j := 1) hC rfl rfl dX11_term_41 ?_
      exact at_iret (F := eqA ad) (ra := rI) hC dX11_term_42 rfl (Nat.le_refl 0) (Nat.le_refl 0) rfl
    · refine at_aload_n (j := 0) hC rfl rfl dX11_term_12 ?_
      refine at_callVpI hC hR lk_X11_239 (c_M_byteAt σ) dX11_term_13 recX11 rfl rfl ⟨by omega, by decide⟩ (Nat.le_of_ble_eq_true rfl) ⟨Nat.le_refl 0, Nat.le_refl 0⟩ (fun r2 _ => ?_)
      refine at_bipush hC bi_42 dX11_term_16 ?_
      refine at_icmp_ne (tgt := 41) hC dX11_term_18 rfl (fun _ => ?_) (fun _ => ?_)
      · refine at_iload_n (j := 1) hC rfl rfl dX11_term_41 ?_
        exact at_iret (F := eqA ad) (ra := rI) hC dX11_term_42 rfl (Nat.le_refl 0) (Nat.le_refl 0) rfl
      · refine at_aload_n (j := 0) hC rfl rfl dX11_term_21 ?_
        refine at_dup hC rfl dX11_term_22 ?_
        refine gf_X11_229 hC dX11_term_23 ?_
        refine at_iconst hC ic_1 dX11_term_26 ?_
        refine at_iadd hC dX11_term_27 ?_
        refine pf_X11_229 hC dX11_term_28 ?_
        refine at_iload_n (j := 1) hC rfl rfl dX11_term_31 ?_
        refine at_aload_n (j := 0) hC rfl rfl dX11_term_32 ?_
        refine at_callVI hC hR lk_X11_302 (ho (sI σ 47 ((σ.1 47) + 1))) dX11_term_33 recX11 rfl rfl ⟨Nat.le_refl _, by decide⟩ (Nat.le_of_ble_eq_true rfl) ⟨Nat.le_refl 0, Nat.le_refl 0⟩ (fun r3 r3s _ => ?_)
        refine at_imul hC dX11_term_36 ?_
        refine at_istore_n (lv' := [(1, .int (a1 * r3)), (0, .ref 0)]) hC rfl dX11_term_37 (by decide) rfl ?_
        refine at_goto (tgt := 5) hC dX11_term_38 rfl ?_
        refine at_drop (lv' := [(0, .ref 0), (1, .int (a1 * r3))]) [1, 0] rfl ?_
        exact hk_5 r3s (a1 * r3)
set_option maxRecDepth 100000 in
theorem c_M_term (o : MS → Option (Int32 × MS)) {hO : Nat} (ho : ∀ σ : MS, Ct z (wM z τ) rI eqA yX11_one cX11_one 2 (some .int) (10 + hO) 0 0 [.ref 0] σ (o σ)) (σ : MS) : Ct z (wM z τ) rI eqA yX11_term cX11_term 2 (some .int) (10 + hO + 1) 0 0 [.ref 0] σ (M_term o σ) := by
  refine Ct.of (by decide) (Nat.le_of_ble_eq_true rfl) (fun ad x hC hR _ => ?_)
  show AT z x 2 (wM z τ) rI (eqA ad) 0 0 0 0 ad 0 [(0, .ref 0)] [] σ (M_term o σ)
  unfold M_term
  refine at_aload_n (j := 0) hC rfl rfl dX11_term_0 ?_
  refine at_callVI hC hR lk_X11_302 (ho σ) dX11_term_1 recX11 rfl rfl ⟨Nat.le_refl _, by decide⟩ (Nat.le_of_ble_eq_true rfl) ⟨Nat.le_refl 0, Nat.le_refl 0⟩ (fun r1 r1s _ => ?_)
  refine at_istore_n (lv' := [(1, .int r1), (0, .ref 0)]) hC rfl dX11_term_4 (by decide) rfl ?_
  refine at_drop (lv' := [(0, .ref 0), (1, .int r1)]) [1, 0] rfl ?_
  exact t_M_term_L5 o ho hC hR 100000 r1s r1
theorem dX11_sums_0 : decode cX11_sums 0 = .ok (.aload_n 0, 1) := by decide +kernel
theorem dX11_sums_1 : decode cX11_sums 1 = .ok (.invokevirtual 305, 3) := by decide +kernel
theorem dX11_sums_4 : decode cX11_sums 4 = .ok (.istore_n 1, 1) := by decide +kernel
theorem dX11_sums_5 : decode cX11_sums 5 = .ok (.aload_n 0, 1) := by decide +kernel
theorem dX11_sums_6 : decode cX11_sums 6 = .ok (.getfield 235, 3) := by decide +kernel
theorem dX11_sums_9 : decode cX11_sums 9 = .ok (.ifCond .ne 68, 3) := by decide +kernel
theorem dX11_sums_12 : decode cX11_sums 12 = .ok (.aload_n 0, 1) := by decide +kernel
theorem dX11_sums_13 : decode cX11_sums 13 = .ok (.invokevirtual 239, 3) := by decide +kernel
theorem dX11_sums_16 : decode cX11_sums 16 = .ok (.bipush 43, 2) := by decide +kernel
theorem dX11_sums_18 : decode cX11_sums 18 = .ok (.if_icmp .eq 12, 3) := by decide +kernel
theorem dX11_sums_21 : decode cX11_sums 21 = .ok (.aload_n 0, 1) := by decide +kernel
theorem dX11_sums_22 : decode cX11_sums 22 = .ok (.invokevirtual 239, 3) := by decide +kernel
theorem dX11_sums_25 : decode cX11_sums 25 = .ok (.bipush 45, 2) := by decide +kernel
theorem dX11_sums_27 : decode cX11_sums 27 = .ok (.if_icmp .ne 50, 3) := by decide +kernel
theorem dX11_sums_30 : decode cX11_sums 30 = .ok (.aload_n 0, 1) := by decide +kernel
theorem dX11_sums_31 : decode cX11_sums 31 = .ok (.invokevirtual 239, 3) := by decide +kernel
theorem dX11_sums_34 : decode cX11_sums 34 = .ok (.bipush 43, 2) := by decide +kernel
theorem dX11_sums_36 : decode cX11_sums 36 = .ok (.if_icmp .ne 7, 3) := by decide +kernel
theorem dX11_sums_39 : decode cX11_sums 39 = .ok (.iconst 1, 1) := by decide +kernel
theorem dX11_sums_40 : decode cX11_sums 40 = .ok (.goto 4, 3) := by decide +kernel
theorem dX11_sums_43 : decode cX11_sums 43 = .ok (.iconst 0, 1) := by decide +kernel
theorem dX11_sums_44 : decode cX11_sums 44 = .ok (.istore_n 2, 1) := by decide +kernel
theorem dX11_sums_45 : decode cX11_sums 45 = .ok (.aload_n 0, 1) := by decide +kernel
theorem dX11_sums_46 : decode cX11_sums 46 = .ok (.dup, 1) := by decide +kernel
theorem dX11_sums_47 : decode cX11_sums 47 = .ok (.getfield 229, 3) := by decide +kernel
theorem dX11_sums_50 : decode cX11_sums 50 = .ok (.iconst 1, 1) := by decide +kernel
theorem dX11_sums_51 : decode cX11_sums 51 = .ok (.iadd, 1) := by decide +kernel
theorem dX11_sums_52 : decode cX11_sums 52 = .ok (.putfield 229, 3) := by decide +kernel
theorem dX11_sums_55 : decode cX11_sums 55 = .ok (.aload_n 0, 1) := by decide +kernel
theorem dX11_sums_56 : decode cX11_sums 56 = .ok (.invokevirtual 305, 3) := by decide +kernel
theorem dX11_sums_59 : decode cX11_sums 59 = .ok (.istore_n 3, 1) := by decide +kernel
theorem dX11_sums_60 : decode cX11_sums 60 = .ok (.iload_n 2, 1) := by decide +kernel
theorem dX11_sums_61 : decode cX11_sums 61 = .ok (.ifCond .eq 9, 3) := by decide +kernel
theorem dX11_sums_64 : decode cX11_sums 64 = .ok (.iload_n 1, 1) := by decide +kernel
theorem dX11_sums_65 : decode cX11_sums 65 = .ok (.iload_n 3, 1) := by decide +kernel
theorem dX11_sums_66 : decode cX11_sums 66 = .ok (.iadd, 1) := by decide +kernel
theorem dX11_sums_67 : decode cX11_sums 67 = .ok (.goto 6, 3) := by decide +kernel
theorem dX11_sums_70 : decode cX11_sums 70 = .ok (.iload_n 1, 1) := by decide +kernel
theorem dX11_sums_71 : decode cX11_sums 71 = .ok (.iload_n 3, 1) := by decide +kernel
theorem dX11_sums_72 : decode cX11_sums 72 = .ok (.isub, 1) := by decide +kernel
theorem dX11_sums_73 : decode cX11_sums 73 = .ok (.istore_n 1, 1) := by decide +kernel
theorem dX11_sums_74 : decode cX11_sums 74 = .ok (.goto (-69), 3) := by decide +kernel
theorem dX11_sums_77 : decode cX11_sums 77 = .ok (.iload_n 1, 1) := by decide +kernel
theorem dX11_sums_78 : decode cX11_sums 78 = .ok (.ireturn, 1) := by decide +kernel
set_option maxRecDepth 100000 in
theorem t_M_sums_J73 (o : MS → Option (Int32 × MS)) {hO : Nat} (ho : ∀ σ : MS, Ct z (wM z τ) rI eqA yX11_one cX11_one 2 (some .int) (10 + hO) 0 0 [.ref 0] σ (o σ)) (hC : CX z ad x cX11_sums RX11 4 (some .int)) (hR : x.2.2.1 = rmk (10 + hO + 2) 0 0) (k_5 : MS → Int32 → Option (Int32 × MS)) (hk_5 : ∀ (σ : MS) (a1 : Int32), AT z x 4 (wM z τ) rI (eqA ad) 0 0 0 0 ad 5 [(0, .ref 0), (1, .int a1)] [] σ (k_5 σ a1)) (σ : MS) (s0 : Int32) : AT z x 4 (wM z τ) rI (eqA ad) 0 0 0 0 ad 73 [(0, .ref 0)] [.int s0] σ (M_sums_J73 o k_5 σ s0) := by
  unfold M_sums_J73
  refine at_istore_n (lv' := [(1, .int s0), (0, .ref 0)]) hC rfl dX11_sums_73 (by decide) rfl ?_
  refine at_goto (tgt := 5) hC dX11_sums_74 rfl ?_
  refine at_drop (lv' := [(0, .ref 0), (1, .int s0)]) [1, 0] rfl ?_
  exact hk_5 σ s0
set_option maxRecDepth 100000 in
theorem t_M_sums_J44 (o : MS → Option (Int32 × MS)) {hO : Nat} (ho : ∀ σ : MS, Ct z (wM z τ) rI eqA yX11_one cX11_one 2 (some .int) (10 + hO) 0 0 [.ref 0] σ (o σ)) (hC : CX z ad x cX11_sums RX11 4 (some .int)) (hR : x.2.2.1 = rmk (10 + hO + 2) 0 0) (k_5 : MS → Int32 → Option (Int32 × MS)) (hk_5 : ∀ (σ : MS) (a1 : Int32), AT z x 4 (wM z τ) rI (eqA ad) 0 0 0 0 ad 5 [(0, .ref 0), (1, .int a1)] [] σ (k_5 σ a1)) (σ : MS) (a1 : Int32) (s0 : Int32) : AT z x 4 (wM z τ) rI (eqA ad) 0 0 0 0 ad 44 [(0, .ref 0), (1, .int a1)] [.int s0] σ (M_sums_J44 o k_5 σ a1 s0) := by
  unfold M_sums_J44
  refine at_istore_n (lv' := [(2, .int s0), (0, .ref 0), (1, .int a1)]) hC rfl dX11_sums_44 (by decide) rfl ?_
  refine at_aload_n (j := 1) hC rfl rfl dX11_sums_45 ?_
  refine at_dup hC rfl dX11_sums_46 ?_
  refine gf_X11_229 hC dX11_sums_47 ?_
  refine at_iconst hC ic_1 dX11_sums_50 ?_
  refine at_iadd hC dX11_sums_51 ?_
  refine pf_X11_229 hC dX11_sums_52 ?_
  refine at_aload_n (j := 1) hC rfl rfl dX11_sums_55 ?_
  refine at_callVI hC hR lk_X11_305 (c_M_term o ho (sI σ 47 ((σ.1 47) + 1))) dX11_sums_56 recX11 rfl rfl ⟨Nat.le_refl _, by decide⟩ (Nat.le_of_ble_eq_true rfl) ⟨Nat.le_refl 0, Nat.le_refl 0⟩ (fun r4 r4s _ => ?_)
  refine at_istore_n (lv' := [(3, .int r4), (2, .int s0), (0, .ref 0), (1, .int a1)]) hC rfl dX11_sums_59 (by decide) rfl ?_
  refine at_iload_n (j := 1) hC rfl rfl dX11_sums_60 ?_
  refine at_if_eq (tgt := 70) hC dX11_sums_61 rfl (fun _ => ?_) (fun _ => ?_)
  · refine at_iload_n (j := 3) hC rfl rfl dX11_sums_70 ?_
    refine at_iload_n (j := 0) hC rfl rfl dX11_sums_71 ?_
    refine at_isub hC dX11_sums_72 ?_
    refine at_drop (lv' := [(0, .ref 0)]) [2] rfl ?_
    exact t_M_sums_J73 o ho hC hR k_5 hk_5 r4s (a1 - r4)
  · refine at_iload_n (j := 3) hC rfl rfl dX11_sums_64 ?_
    refine at_iload_n (j := 0) hC rfl rfl dX11_sums_65 ?_
    refine at_iadd hC dX11_sums_66 ?_
    refine at_goto (tgt := 73) hC dX11_sums_67 rfl ?_
    refine at_drop (lv' := [(0, .ref 0)]) [2] rfl ?_
    exact t_M_sums_J73 o ho hC hR k_5 hk_5 r4s (a1 + r4)
set_option maxRecDepth 100000 in
theorem t_M_sums_J30 (o : MS → Option (Int32 × MS)) {hO : Nat} (ho : ∀ σ : MS, Ct z (wM z τ) rI eqA yX11_one cX11_one 2 (some .int) (10 + hO) 0 0 [.ref 0] σ (o σ)) (hC : CX z ad x cX11_sums RX11 4 (some .int)) (hR : x.2.2.1 = rmk (10 + hO + 2) 0 0) (k_5 : MS → Int32 → Option (Int32 × MS)) (hk_5 : ∀ (σ : MS) (a1 : Int32), AT z x 4 (wM z τ) rI (eqA ad) 0 0 0 0 ad 5 [(0, .ref 0), (1, .int a1)] [] σ (k_5 σ a1)) (σ : MS) (a1 : Int32) : AT z x 4 (wM z τ) rI (eqA ad) 0 0 0 0 ad 30 [(0, .ref 0), (1, .int a1)] [] σ (M_sums_J30 o k_5 σ a1) := by
  unfold M_sums_J30
  refine at_aload_n (j := 0) hC rfl rfl dX11_sums_30 ?_
  refine at_callVpI hC hR lk_X11_239 (c_M_byteAt σ) dX11_sums_31 recX11 rfl rfl ⟨by omega, by decide⟩ (Nat.le_of_ble_eq_true rfl) ⟨Nat.le_refl 0, Nat.le_refl 0⟩ (fun r3 _ => ?_)
  refine at_bipush hC bi_43 dX11_sums_34 ?_
  refine at_icmp_ne (tgt := 43) hC dX11_sums_36 rfl (fun _ => ?_) (fun _ => ?_)
  · refine at_iconst hC ic_0 dX11_sums_43 ?_
    exact t_M_sums_J44 o ho hC hR k_5 hk_5 σ a1 0
  · refine at_iconst hC ic_1 dX11_sums_39 ?_
    refine at_goto (tgt := 44) hC dX11_sums_40 rfl ?_
    exact t_M_sums_J44 o ho hC hR k_5 hk_5 σ a1 1
set_option maxRecDepth 100000 in
theorem t_M_sums_L5 (o : MS → Option (Int32 × MS)) {hO : Nat} (ho : ∀ σ : MS, Ct z (wM z τ) rI eqA yX11_one cX11_one 2 (some .int) (10 + hO) 0 0 [.ref 0] σ (o σ)) (hC : CX z ad x cX11_sums RX11 4 (some .int)) (hR : x.2.2.1 = rmk (10 + hO + 2) 0 0) (n : Nat) (σ : MS) (a1 : Int32) : AT z x 4 (wM z τ) rI (eqA ad) 0 0 0 0 ad 5 [(0, .ref 0), (1, .int a1)] [] σ (M_sums_L5 o n σ a1) := by
  revert σ a1
  show ∀ (σ : MS) (a1 : Int32), AT z x 4 (wM z τ) rI (eqA ad) 0 0 0 0 ad 5 [(0, .ref 0), (1, .int a1)] [] σ (M_sums_L5_r o n σ a1)
  induction n with
  | zero => intro σ a1; exact at_none
  | succ n hk_5 =>
    intro σ a1
    unfold M_sums_L5_r
    refine at_aload_n (j := 0) hC rfl rfl dX11_sums_5 ?_
    refine gf_X11_235 hC dX11_sums_6 ?_
    refine at_if_ne (tgt := 77) hC dX11_sums_9 rfl (fun _ => ?_) (fun _ => ?_)
    · refine at_iload_n (j := 1) hC rfl rfl dX11_sums_77 ?_
      exact at_iret (F := eqA ad) (ra := rI) hC dX11_sums_78 rfl (Nat.le_refl 0) (Nat.le_refl 0) rfl
    · refine at_aload_n (j := 0) hC rfl rfl dX11_sums_12 ?_
      refine at_callVpI hC hR lk_X11_239 (c_M_byteAt σ) dX11_sums_13 recX11 rfl rfl ⟨by omega, by decide⟩ (Nat.le_of_ble_eq_true rfl) ⟨Nat.le_refl 0, Nat.le_refl 0⟩ (fun r2 _ => ?_)
      refine at_bipush hC bi_43 dX11_sums_16 ?_
      refine at_icmp_eq (tgt := 30) hC dX11_sums_18 rfl (fun _ => ?_) (fun _ => ?_)
      · exact t_M_sums_J30 o ho hC hR (M_sums_L5_r o n) hk_5 σ a1
      · refine at_aload_n (j := 0) hC rfl rfl dX11_sums_21 ?_
        refine at_callVpI hC hR lk_X11_239 (c_M_byteAt σ) dX11_sums_22 recX11 rfl rfl ⟨by omega, by decide⟩ (Nat.le_of_ble_eq_true rfl) ⟨Nat.le_refl 0, Nat.le_refl 0⟩ (fun r5 _ => ?_)
        refine at_bipush hC bi_45 dX11_sums_25 ?_
        refine at_icmp_ne (tgt := 77) hC dX11_sums_27 rfl (fun _ => ?_) (fun _ => ?_)
        · refine at_iload_n (j := 1) hC rfl rfl dX11_sums_77 ?_
          exact at_iret (F := eqA ad) (ra := rI) hC dX11_sums_78 rfl (Nat.le_refl 0) (Nat.le_refl 0) rfl
        · exact t_M_sums_J30 o ho hC hR (M_sums_L5_r o n) hk_5 σ a1
set_option maxRecDepth 100000 in
theorem c_M_sums (o : MS → Option (Int32 × MS)) {hO : Nat} (ho : ∀ σ : MS, Ct z (wM z τ) rI eqA yX11_one cX11_one 2 (some .int) (10 + hO) 0 0 [.ref 0] σ (o σ)) (σ : MS) : Ct z (wM z τ) rI eqA yX11_sums cX11_sums 4 (some .int) (10 + hO + 2) 0 0 [.ref 0] σ (M_sums o σ) := by
  refine Ct.of (by decide) (Nat.le_of_ble_eq_true rfl) (fun ad x hC hR _ => ?_)
  show AT z x 4 (wM z τ) rI (eqA ad) 0 0 0 0 ad 0 [(0, .ref 0)] [] σ (M_sums o σ)
  unfold M_sums
  refine at_aload_n (j := 0) hC rfl rfl dX11_sums_0 ?_
  refine at_callVI hC hR lk_X11_305 (c_M_term o ho σ) dX11_sums_1 recX11 rfl rfl ⟨Nat.le_refl _, by decide⟩ (Nat.le_of_ble_eq_true rfl) ⟨Nat.le_refl 0, Nat.le_refl 0⟩ (fun r1 r1s _ => ?_)
  refine at_istore_n (lv' := [(1, .int r1), (0, .ref 0)]) hC rfl dX11_sums_4 (by decide) rfl ?_
  refine at_drop (lv' := [(0, .ref 0), (1, .int r1)]) [1, 0] rfl ?_
  exact t_M_sums_L5 o ho hC hR 100000 r1s r1
theorem c_M_oneR (n : Nat) : ∀ σ : MS, Ct z (wM z τ) rI eqA yX11_one cX11_one 2 (some .int) (10 + 3 * n) 0 0 [.ref 0] σ (M_oneR n σ) := by
  induction n with
  | zero => intro σ r σ' h; cases h
  | succ n ih =>
    intro σ
    rw [show 10 + 3 * (n + 1) = 10 + (3 * n + 2) + 1 by omega]
    exact c_M_one (M_sums (M_oneR n)) (hO := 3 * n + 2) (fun σ => by have := c_M_sums (M_oneR n) (hO := 3 * n) ih σ; rwa [show 10 + 3 * n + 2 = 10 + (3 * n + 2) by omega] at this) σ
theorem dX11_test_0 : decode cX11_test 0 = .ok (.aload_n 0, 1) := by decide +kernel
theorem dX11_test_1 : decode cX11_test 1 = .ok (.invokevirtual 293, 3) := by decide +kernel
theorem dX11_test_4 : decode cX11_test 4 = .ok (.istore_n 1, 1) := by decide +kernel
theorem dX11_test_5 : decode cX11_test 5 = .ok (.aload_n 0, 1) := by decide +kernel
theorem dX11_test_6 : decode cX11_test 6 = .ok (.invokevirtual 239, 3) := by decide +kernel
theorem dX11_test_9 : decode cX11_test 9 = .ok (.istore_n 2, 1) := by decide +kernel
theorem dX11_test_10 : decode cX11_test 10 = .ok (.aload_n 0, 1) := by decide +kernel
theorem dX11_test_11 : decode cX11_test 11 = .ok (.aload_n 0, 1) := by decide +kernel
theorem dX11_test_12 : decode cX11_test 12 = .ok (.getfield 235, 3) := by decide +kernel
theorem dX11_test_15 : decode cX11_test 15 = .ok (.ifCond .ne 21, 3) := by decide +kernel
theorem dX11_test_18 : decode cX11_test 18 = .ok (.iload_n 2, 1) := by decide +kernel
theorem dX11_test_19 : decode cX11_test 19 = .ok (.bipush 60, 2) := by decide +kernel
theorem dX11_test_21 : decode cX11_test 21 = .ok (.if_icmp .eq 19, 3) := by decide +kernel
theorem dX11_test_24 : decode cX11_test 24 = .ok (.iload_n 2, 1) := by decide +kernel
theorem dX11_test_25 : decode cX11_test 25 = .ok (.bipush 61, 2) := by decide +kernel
theorem dX11_test_27 : decode cX11_test 27 = .ok (.if_icmp .eq 13, 3) := by decide +kernel
theorem dX11_test_30 : decode cX11_test 30 = .ok (.iload_n 2, 1) := by decide +kernel
theorem dX11_test_31 : decode cX11_test 31 = .ok (.bipush 62, 2) := by decide +kernel
theorem dX11_test_33 : decode cX11_test 33 = .ok (.if_icmp .eq 7, 3) := by decide +kernel
theorem dX11_test_36 : decode cX11_test 36 = .ok (.iconst 1, 1) := by decide +kernel
theorem dX11_test_37 : decode cX11_test 37 = .ok (.goto 4, 3) := by decide +kernel
theorem dX11_test_40 : decode cX11_test 40 = .ok (.iconst 0, 1) := by decide +kernel
theorem dX11_test_41 : decode cX11_test 41 = .ok (.putfield 235, 3) := by decide +kernel
theorem dX11_test_44 : decode cX11_test 44 = .ok (.aload_n 0, 1) := by decide +kernel
theorem dX11_test_45 : decode cX11_test 45 = .ok (.dup, 1) := by decide +kernel
theorem dX11_test_46 : decode cX11_test 46 = .ok (.getfield 229, 3) := by decide +kernel
theorem dX11_test_49 : decode cX11_test 49 = .ok (.aload_n 0, 1) := by decide +kernel
theorem dX11_test_50 : decode cX11_test 50 = .ok (.getfield 235, 3) := by decide +kernel
theorem dX11_test_53 : decode cX11_test 53 = .ok (.ifCond .eq 7, 3) := by decide +kernel
theorem dX11_test_56 : decode cX11_test 56 = .ok (.iconst 0, 1) := by decide +kernel
theorem dX11_test_57 : decode cX11_test 57 = .ok (.goto 4, 3) := by decide +kernel
theorem dX11_test_60 : decode cX11_test 60 = .ok (.iconst 1, 1) := by decide +kernel
theorem dX11_test_61 : decode cX11_test 61 = .ok (.iadd, 1) := by decide +kernel
theorem dX11_test_62 : decode cX11_test 62 = .ok (.putfield 229, 3) := by decide +kernel
theorem dX11_test_65 : decode cX11_test 65 = .ok (.aload_n 0, 1) := by decide +kernel
theorem dX11_test_66 : decode cX11_test 66 = .ok (.invokevirtual 293, 3) := by decide +kernel
theorem dX11_test_69 : decode cX11_test 69 = .ok (.istore_n 3, 1) := by decide +kernel
theorem dX11_test_70 : decode cX11_test 70 = .ok (.iload_n 2, 1) := by decide +kernel
theorem dX11_test_71 : decode cX11_test 71 = .ok (.bipush 60, 2) := by decide +kernel
theorem dX11_test_73 : decode cX11_test 73 = .ok (.if_icmp .ne 16, 3) := by decide +kernel
theorem dX11_test_76 : decode cX11_test 76 = .ok (.iload_n 1, 1) := by decide +kernel
theorem dX11_test_77 : decode cX11_test 77 = .ok (.iload_n 3, 1) := by decide +kernel
theorem dX11_test_78 : decode cX11_test 78 = .ok (.if_icmp .ge 7, 3) := by decide +kernel
theorem dX11_test_81 : decode cX11_test 81 = .ok (.iconst 1, 1) := by decide +kernel
theorem dX11_test_82 : decode cX11_test 82 = .ok (.goto 36, 3) := by decide +kernel
theorem dX11_test_85 : decode cX11_test 85 = .ok (.iconst 0, 1) := by decide +kernel
theorem dX11_test_86 : decode cX11_test 86 = .ok (.goto 32, 3) := by decide +kernel
theorem dX11_test_89 : decode cX11_test 89 = .ok (.iload_n 2, 1) := by decide +kernel
theorem dX11_test_90 : decode cX11_test 90 = .ok (.bipush 61, 2) := by decide +kernel
theorem dX11_test_92 : decode cX11_test 92 = .ok (.if_icmp .ne 16, 3) := by decide +kernel
theorem dX11_test_95 : decode cX11_test 95 = .ok (.iload_n 1, 1) := by decide +kernel
theorem dX11_test_96 : decode cX11_test 96 = .ok (.iload_n 3, 1) := by decide +kernel
theorem dX11_test_97 : decode cX11_test 97 = .ok (.if_icmp .ne 7, 3) := by decide +kernel
theorem dX11_test_100 : decode cX11_test 100 = .ok (.iconst 1, 1) := by decide +kernel
theorem dX11_test_101 : decode cX11_test 101 = .ok (.goto 17, 3) := by decide +kernel
theorem dX11_test_104 : decode cX11_test 104 = .ok (.iconst 0, 1) := by decide +kernel
theorem dX11_test_105 : decode cX11_test 105 = .ok (.goto 13, 3) := by decide +kernel
theorem dX11_test_108 : decode cX11_test 108 = .ok (.iload_n 1, 1) := by decide +kernel
theorem dX11_test_109 : decode cX11_test 109 = .ok (.iload_n 3, 1) := by decide +kernel
theorem dX11_test_110 : decode cX11_test 110 = .ok (.if_icmp .le 7, 3) := by decide +kernel
theorem dX11_test_113 : decode cX11_test 113 = .ok (.iconst 1, 1) := by decide +kernel
theorem dX11_test_114 : decode cX11_test 114 = .ok (.goto 4, 3) := by decide +kernel
theorem dX11_test_117 : decode cX11_test 117 = .ok (.iconst 0, 1) := by decide +kernel
theorem dX11_test_118 : decode cX11_test 118 = .ok (.ireturn, 1) := by decide +kernel
set_option maxRecDepth 100000 in
theorem t_M_test_J61 (hC : CX z ad x cX11_test RX11 4 (some .boolean)) (hR : x.2.2.1 = rmk 613 0 0) (σ : MS) (a1 : Int32) (a2 : Int32) (s0 : Int32) (s1 : Int32) : AT z x 4 (wM z τ) rI (eqA ad) 0 0 0 0 ad 61 [(0, .ref 0), (1, .int a1), (2, .int a2)] [.int s0, .int s1, .ref 0] σ (M_test_J61 σ a1 a2 s0 s1) := by
  unfold M_test_J61
  refine at_iadd hC dX11_test_61 ?_
  refine pf_X11_229 hC dX11_test_62 ?_
  refine at_aload_n (j := 0) hC rfl rfl dX11_test_65 ?_
  refine at_callVI hC hR lk_X11_293 (c_M_sums (M_oneR 200) (c_M_oneR 200) (sI σ 47 (s1 + s0))) dX11_test_66 recX11 rfl rfl ⟨by decide, by decide⟩ (Nat.le_of_ble_eq_true rfl) ⟨Nat.le_refl 0, Nat.le_refl 0⟩ (fun r3 r3s _ => ?_)
  refine at_istore_n (lv' := [(3, .int r3), (0, .ref 0), (1, .int a1), (2, .int a2)]) hC rfl dX11_test_69 (by decide) rfl ?_
  refine at_iload_n (j := 3) hC rfl rfl dX11_test_70 ?_
  refine at_bipush hC bi_60 dX11_test_71 ?_
  refine at_icmp_ne (tgt := 89) hC dX11_test_73 rfl (fun _ => ?_) (fun _ => ?_)
  · refine at_iload_n (j := 3) hC rfl rfl dX11_test_89 ?_
    refine at_bipush hC bi_61 dX11_test_90 ?_
    refine at_icmp_ne (tgt := 108) hC dX11_test_92 rfl (fun _ => ?_) (fun _ => ?_)
    · refine at_iload_n (j := 2) hC rfl rfl dX11_test_108 ?_
      refine at_iload_n (j := 0) hC rfl rfl dX11_test_109 ?_
      refine at_icmp_le (tgt := 117) hC dX11_test_110 rfl (fun _ => ?_) (fun _ => ?_)
      · refine at_iconst hC ic_0 dX11_test_117 ?_
        exact at_zret (F := eqA ad) (ra := rI) hC nb0 dX11_test_118 rfl (Nat.le_refl 0) (Nat.le_refl 0) rfl
      · refine at_iconst hC ic_1 dX11_test_113 ?_
        refine at_goto (tgt := 118) hC dX11_test_114 rfl ?_
        exact at_zret (F := eqA ad) (ra := rI) hC nb1 dX11_test_118 rfl (Nat.le_refl 0) (Nat.le_refl 0) rfl
    · refine at_iload_n (j := 2) hC rfl rfl dX11_test_95 ?_
      refine at_iload_n (j := 0) hC rfl rfl dX11_test_96 ?_
      refine at_icmp_ne (tgt := 104) hC dX11_test_97 rfl (fun _ => ?_) (fun _ => ?_)
      · refine at_iconst hC ic_0 dX11_test_104 ?_
        refine at_goto (tgt := 118) hC dX11_test_105 rfl ?_
        exact at_zret (F := eqA ad) (ra := rI) hC nb0 dX11_test_118 rfl (Nat.le_refl 0) (Nat.le_refl 0) rfl
      · refine at_iconst hC ic_1 dX11_test_100 ?_
        refine at_goto (tgt := 118) hC dX11_test_101 rfl ?_
        exact at_zret (F := eqA ad) (ra := rI) hC nb1 dX11_test_118 rfl (Nat.le_refl 0) (Nat.le_refl 0) rfl
  · refine at_iload_n (j := 2) hC rfl rfl dX11_test_76 ?_
    refine at_iload_n (j := 0) hC rfl rfl dX11_test_77 ?_
    refine at_icmp_ge (tgt := 85) hC dX11_test_78 rfl (fun _ => ?_) (fun _ => ?_)
    · refine at_iconst hC ic_0 dX11_test_85 ?_
      refine at_goto (tgt := 118) hC dX11_test_86 rfl ?_
      exact at_zret (F := eqA ad) (ra := rI) hC nb0 dX11_test_118 rfl (Nat.le_refl 0) (Nat.le_refl 0) rfl
    · refine at_iconst hC ic_1 dX11_test_81 ?_
      refine at_goto (tgt := 118) hC dX11_test_82 rfl ?_
      exact at_zret (F := eqA ad) (ra := rI) hC nb1 dX11_test_118 rfl (Nat.le_refl 0) (Nat.le_refl 0) rfl
set_option maxRecDepth 100000 in
theorem t_M_test_J41 (hC : CX z ad x cX11_test RX11 4 (some .boolean)) (hR : x.2.2.1 = rmk 613 0 0) (σ : MS) (a1 : Int32) (a2 : Int32) (s0 : Int32) : AT z x 4 (wM z τ) rI (eqA ad) 0 0 0 0 ad 41 [(0, .ref 0), (1, .int a1), (2, .int a2)] [.int s0, .ref 0] σ (M_test_J41 σ a1 a2 s0) := by
  unfold M_test_J41
  refine at_bz (fun hb => ?_)
  refine pf_X11_235 hC hb dX11_test_41 ?_
  refine at_aload_n (j := 0) hC rfl rfl dX11_test_44 ?_
  refine at_dup hC rfl dX11_test_45 ?_
  refine gf_X11_229 hC dX11_test_46 ?_
  refine at_aload_n (j := 0) hC rfl rfl dX11_test_49 ?_
  refine gf_X11_235 hC dX11_test_50 ?_
  refine at_if_eq (tgt := 60) hC dX11_test_53 rfl (fun _ => ?_) (fun _ => ?_)
  · refine at_iconst hC ic_1 dX11_test_60 ?_
    exact t_M_test_J61 hC hR (sI σ 48 s0) a1 a2 1 ((sI σ 48 s0).1 47)
  · refine at_iconst hC ic_0 dX11_test_56 ?_
    refine at_goto (tgt := 61) hC dX11_test_57 rfl ?_
    exact t_M_test_J61 hC hR (sI σ 48 s0) a1 a2 0 ((sI σ 48 s0).1 47)
set_option maxRecDepth 100000 in
theorem t_M_test_J36 (hC : CX z ad x cX11_test RX11 4 (some .boolean)) (hR : x.2.2.1 = rmk 613 0 0) (σ : MS) (a1 : Int32) (a2 : Int32) : AT z x 4 (wM z τ) rI (eqA ad) 0 0 0 0 ad 36 [(0, .ref 0), (1, .int a1), (2, .int a2)] [.ref 0] σ (M_test_J36 σ a1 a2) := by
  unfold M_test_J36
  refine at_iconst hC ic_1 dX11_test_36 ?_
  refine at_goto (tgt := 41) hC dX11_test_37 rfl ?_
  exact t_M_test_J41 hC hR σ a1 a2 1
set_option maxRecDepth 100000 in
theorem t_M_test_J40 (hC : CX z ad x cX11_test RX11 4 (some .boolean)) (hR : x.2.2.1 = rmk 613 0 0) (σ : MS) (a1 : Int32) (a2 : Int32) : AT z x 4 (wM z τ) rI (eqA ad) 0 0 0 0 ad 40 [(0, .ref 0), (1, .int a1), (2, .int a2)] [.ref 0] σ (M_test_J40 σ a1 a2) := by
  unfold M_test_J40
  refine at_iconst hC ic_0 dX11_test_40 ?_
  exact t_M_test_J41 hC hR σ a1 a2 0
set_option maxRecDepth 100000 in
theorem c_M_test (σ : MS) : Ct z (wM z τ) rI eqA yX11_test cX11_test 4 (some .boolean) 613 0 0 [.ref 0] σ (M_test σ) := by
  refine Ct.of (by decide) (Nat.le_of_ble_eq_true rfl) (fun ad x hC hR _ => ?_)
  show AT z x 4 (wM z τ) rI (eqA ad) 0 0 0 0 ad 0 [(0, .ref 0)] [] σ (M_test σ)
  unfold M_test
  refine at_aload_n (j := 0) hC rfl rfl dX11_test_0 ?_
  refine at_callVI hC hR lk_X11_293 (c_M_sums (M_oneR 200) (c_M_oneR 200) σ) dX11_test_1 recX11 rfl rfl ⟨by decide, by decide⟩ (Nat.le_of_ble_eq_true rfl) ⟨Nat.le_refl 0, Nat.le_refl 0⟩ (fun r1 r1s _ => ?_)
  refine at_istore_n (lv' := [(1, .int r1), (0, .ref 0)]) hC rfl dX11_test_4 (by decide) rfl ?_
  refine at_aload_n (j := 1) hC rfl rfl dX11_test_5 ?_
  refine at_callVpI hC hR lk_X11_239 (c_M_byteAt r1s) dX11_test_6 recX11 rfl rfl ⟨by decide, by decide⟩ (Nat.le_of_ble_eq_true rfl) ⟨Nat.le_refl 0, Nat.le_refl 0⟩ (fun r2 _ => ?_)
  refine at_istore_n (lv' := [(2, .int r2), (1, .int r1), (0, .ref 0)]) hC rfl dX11_test_9 (by decide) rfl ?_
  refine at_aload_n (j := 2) hC rfl rfl dX11_test_10 ?_
  refine at_aload_n (j := 2) hC rfl rfl dX11_test_11 ?_
  refine gf_X11_235 hC dX11_test_12 ?_
  refine at_if_ne (tgt := 36) hC dX11_test_15 rfl (fun _ => ?_) (fun _ => ?_)
  · refine at_drop (lv' := [(0, .ref 0), (1, .int r1), (2, .int r2)]) [2, 1, 0] rfl ?_
    exact t_M_test_J36 hC hR r1s r1 r2
  · refine at_iload_n (j := 0) hC rfl rfl dX11_test_18 ?_
    refine at_bipush hC bi_60 dX11_test_19 ?_
    refine at_icmp_eq (tgt := 40) hC dX11_test_21 rfl (fun _ => ?_) (fun _ => ?_)
    · refine at_drop (lv' := [(0, .ref 0), (1, .int r1), (2, .int r2)]) [2, 1, 0] rfl ?_
      exact t_M_test_J40 hC hR r1s r1 r2
    · refine at_iload_n (j := 0) hC rfl rfl dX11_test_24 ?_
      refine at_bipush hC bi_61 dX11_test_25 ?_
      refine at_icmp_eq (tgt := 40) hC dX11_test_27 rfl (fun _ => ?_) (fun _ => ?_)
      · refine at_drop (lv' := [(0, .ref 0), (1, .int r1), (2, .int r2)]) [2, 1, 0] rfl ?_
        exact t_M_test_J40 hC hR r1s r1 r2
      · refine at_iload_n (j := 0) hC rfl rfl dX11_test_30 ?_
        refine at_bipush hC bi_62 dX11_test_31 ?_
        refine at_icmp_eq (tgt := 40) hC dX11_test_33 rfl (fun _ => ?_) (fun _ => ?_)
        · refine at_drop (lv' := [(0, .ref 0), (1, .int r1), (2, .int r2)]) [2, 1, 0] rfl ?_
          exact t_M_test_J40 hC hR r1s r1 r2
        · refine at_drop (lv' := [(0, .ref 0), (1, .int r1), (2, .int r2)]) [2, 1, 0] rfl ?_
          exact t_M_test_J36 hC hR r1s r1 r2
theorem dX11_musts_0 : decode cX11_musts 0 = .ok (.iconst 0, 1) := by decide +kernel
theorem dX11_musts_1 : decode cX11_musts 1 = .ok (.istore_n 2, 1) := by decide +kernel
theorem dX11_musts_2 : decode cX11_musts 2 = .ok (.iload_n 2, 1) := by decide +kernel
theorem dX11_musts_3 : decode cX11_musts 3 = .ok (.aload_n 1, 1) := by decide +kernel
theorem dX11_musts_4 : decode cX11_musts 4 = .ok (.invokevirtual 277, 3) := by decide +kernel
theorem dX11_musts_7 : decode cX11_musts 7 = .ok (.if_icmp .ge 18, 3) := by decide +kernel
theorem dX11_musts_10 : decode cX11_musts 10 = .ok (.aload_n 0, 1) := by decide +kernel
theorem dX11_musts_11 : decode cX11_musts 11 = .ok (.aload_n 1, 1) := by decide +kernel
theorem dX11_musts_12 : decode cX11_musts 12 = .ok (.iload_n 2, 1) := by decide +kernel
theorem dX11_musts_13 : decode cX11_musts 13 = .ok (.invokevirtual 282, 3) := by decide +kernel
theorem dX11_musts_16 : decode cX11_musts 16 = .ok (.invokevirtual 296, 3) := by decide +kernel
theorem dX11_musts_19 : decode cX11_musts 19 = .ok (.iinc 2 1, 3) := by decide +kernel
theorem dX11_musts_22 : decode cX11_musts 22 = .ok (.goto (-20), 3) := by decide +kernel
theorem dX11_musts_25 : decode cX11_musts 25 = .ok (.return_, 1) := by decide +kernel
set_option maxRecDepth 100000 in
theorem t_M_musts_L2 (hC : CX z ad x cX11_musts RX11 3 none) (hR : x.2.2.1 = rmk 5 0 0) (n : Nat) (σ : MS) (a1 : Nat) (a2 : Int32) : AT z x 3 (wM z τ) rU (eqA ad) 0 0 0 0 ad 2 [(0, .ref 0), (1, .ref a1), (2, .int a2)] [] σ (M_musts_L2 n σ a1 a2) := by
  revert σ a1 a2
  show ∀ (σ : MS) (a1 : Nat) (a2 : Int32), AT z x 3 (wM z τ) rU (eqA ad) 0 0 0 0 ad 2 [(0, .ref 0), (1, .ref a1), (2, .int a2)] [] σ (M_musts_L2_r n σ a1 a2)
  induction n with
  | zero => intro σ a1 a2; exact at_none
  | succ n hk_2 =>
    intro σ a1 a2
    unfold M_musts_L2_r
    refine at_iload_n (j := 2) hC rfl rfl dX11_musts_2 ?_
    refine at_aload_n (j := 1) hC rfl rfl dX11_musts_3 ?_
    refine at_strlen hC hR lkstr_X11_277 dX11_musts_4 (by decide) (Nat.le_of_ble_eq_true rfl) ⟨Nat.le_refl 0, Nat.le_refl 0⟩ (fun r1 => ?_)
    refine at_icmp_ge (tgt := 25) hC dX11_musts_7 rfl (fun _ => ?_) (fun _ => ?_)
    · exact at_vret (F := eqA ad) (ra := rU) hC dX11_musts_25 rfl (Nat.le_refl 0) (Nat.le_refl 0) rfl
    · refine at_aload_n (j := 0) hC rfl rfl dX11_musts_10 ?_
      refine at_aload_n (j := 1) hC rfl rfl dX11_musts_11 ?_
      refine at_iload_n (j := 2) hC rfl rfl dX11_musts_12 ?_
      refine at_strchar hC hR lkstr_X11_282 dX11_musts_13 (by decide) (Nat.le_of_ble_eq_true rfl) ⟨Nat.le_refl 0, Nat.le_refl 0⟩ (fun r2 => ?_)
      refine at_callVU hC hR lk_X11_296 (c_M_must σ r2) dX11_musts_16 recX11 rfl rfl ⟨by decide, by decide⟩ (Nat.le_of_ble_eq_true rfl) ⟨Nat.le_refl 0, Nat.le_refl 0⟩ (fun r3 r3s _ => ?_)
      refine at_iinc (j := 2) (v := a2 + 1) (lv' := [(2, .int (a2 + 1)), (0, .ref 0), (1, .ref a1)]) hC dX11_musts_19 rfl rfl (by decide) rfl ?_
      refine at_goto (tgt := 2) hC dX11_musts_22 rfl ?_
      refine at_drop (lv' := [(0, .ref 0), (1, .ref a1), (2, .int (a2 + 1))]) [1, 2, 0] rfl ?_
      exact hk_2 r3s a1 (a2 + 1)
set_option maxRecDepth 100000 in
theorem c_M_musts (σ : MS) (p0 : Nat) : Ct z (wM z τ) rU eqA yX11_musts cX11_musts 3 none 5 0 0 [.ref 0, .ref p0] σ (M_musts σ p0) := by
  refine Ct.of (by decide) (Nat.le_of_ble_eq_true rfl) (fun ad x hC hR _ => ?_)
  show AT z x 3 (wM z τ) rU (eqA ad) 0 0 0 0 ad 0 [(0, .ref 0), (1, .ref p0)] [] σ (M_musts σ p0)
  unfold M_musts
  refine at_iconst hC ic_0 dX11_musts_0 ?_
  refine at_istore_n (lv' := [(2, .int 0), (0, .ref 0), (1, .ref p0)]) hC rfl dX11_musts_1 (by decide) rfl ?_
  refine at_drop (lv' := [(0, .ref 0), (1, .ref p0), (2, .int 0)]) [1, 2, 0] rfl ?_
  exact t_M_musts_L2 hC hR 100000 σ p0 0
theorem dX11_tests_0 : decode cX11_tests 0 = .ok (.aload_n 0, 1) := by decide +kernel
theorem dX11_tests_1 : decode cX11_tests 1 = .ok (.invokevirtual 308, 3) := by decide +kernel
theorem dX11_tests_4 : decode cX11_tests 4 = .ok (.istore_n 1, 1) := by decide +kernel
theorem dX11_tests_5 : decode cX11_tests 5 = .ok (.aload_n 0, 1) := by decide +kernel
theorem dX11_tests_6 : decode cX11_tests 6 = .ok (.getfield 235, 3) := by decide +kernel
theorem dX11_tests_9 : decode cX11_tests 9 = .ok (.ifCond .ne 41, 3) := by decide +kernel
theorem dX11_tests_12 : decode cX11_tests 12 = .ok (.aload_n 0, 1) := by decide +kernel
theorem dX11_tests_13 : decode cX11_tests 13 = .ok (.invokevirtual 239, 3) := by decide +kernel
theorem dX11_tests_16 : decode cX11_tests 16 = .ok (.bipush 32, 2) := by decide +kernel
theorem dX11_tests_18 : decode cX11_tests 18 = .ok (.if_icmp .ne 32, 3) := by decide +kernel
theorem dX11_tests_21 : decode cX11_tests 21 = .ok (.aload_n 0, 1) := by decide +kernel
theorem dX11_tests_22 : decode cX11_tests 22 = .ok (.ldc_w 311, 3) := by decide +kernel
theorem dX11_tests_25 : decode cX11_tests 25 = .ok (.invokevirtual 313, 3) := by decide +kernel
theorem dX11_tests_28 : decode cX11_tests 28 = .ok (.aload_n 0, 1) := by decide +kernel
theorem dX11_tests_29 : decode cX11_tests 29 = .ok (.invokevirtual 308, 3) := by decide +kernel
theorem dX11_tests_32 : decode cX11_tests 32 = .ok (.istore_n 2, 1) := by decide +kernel
theorem dX11_tests_33 : decode cX11_tests 33 = .ok (.iload_n 1, 1) := by decide +kernel
theorem dX11_tests_34 : decode cX11_tests 34 = .ok (.ifCond .eq 11, 3) := by decide +kernel
theorem dX11_tests_37 : decode cX11_tests 37 = .ok (.iload_n 2, 1) := by decide +kernel
theorem dX11_tests_38 : decode cX11_tests 38 = .ok (.ifCond .eq 7, 3) := by decide +kernel
theorem dX11_tests_41 : decode cX11_tests 41 = .ok (.iconst 1, 1) := by decide +kernel
theorem dX11_tests_42 : decode cX11_tests 42 = .ok (.goto 4, 3) := by decide +kernel
theorem dX11_tests_45 : decode cX11_tests 45 = .ok (.iconst 0, 1) := by decide +kernel
theorem dX11_tests_46 : decode cX11_tests 46 = .ok (.istore_n 1, 1) := by decide +kernel
theorem dX11_tests_47 : decode cX11_tests 47 = .ok (.goto (-42), 3) := by decide +kernel
theorem dX11_tests_50 : decode cX11_tests 50 = .ok (.iload_n 1, 1) := by decide +kernel
theorem dX11_tests_51 : decode cX11_tests 51 = .ok (.ireturn, 1) := by decide +kernel
set_option maxRecDepth 100000 in
theorem t_M_tests_J46 (hC : CX z ad x cX11_tests RX11 3 (some .boolean)) (hR : x.2.2.1 = rmk 614 0 0) (k_5 : MS → Int32 → Option (Int32 × MS)) (hk_5 : ∀ (σ : MS) (a1 : Int32), AT z x 3 (wM z τ) rI (eqA ad) 0 0 0 0 ad 5 [(0, .ref 0), (1, .int a1)] [] σ (k_5 σ a1)) (σ : MS) (s0 : Int32) : AT z x 3 (wM z τ) rI (eqA ad) 0 0 0 0 ad 46 [(0, .ref 0)] [.int s0] σ (M_tests_J46 k_5 σ s0) := by
  unfold M_tests_J46
  refine at_istore_n (lv' := [(1, .int s0), (0, .ref 0)]) hC rfl dX11_tests_46 (by decide) rfl ?_
  refine at_goto (tgt := 5) hC dX11_tests_47 rfl ?_
  refine at_drop (lv' := [(0, .ref 0), (1, .int s0)]) [1, 0] rfl ?_
  exact hk_5 σ s0
set_option maxRecDepth 100000 in
theorem t_M_tests_J45 (hC : CX z ad x cX11_tests RX11 3 (some .boolean)) (hR : x.2.2.1 = rmk 614 0 0) (k_5 : MS → Int32 → Option (Int32 × MS)) (hk_5 : ∀ (σ : MS) (a1 : Int32), AT z x 3 (wM z τ) rI (eqA ad) 0 0 0 0 ad 5 [(0, .ref 0), (1, .int a1)] [] σ (k_5 σ a1)) (σ : MS) : AT z x 3 (wM z τ) rI (eqA ad) 0 0 0 0 ad 45 [(0, .ref 0)] [] σ (M_tests_J45 k_5 σ) := by
  unfold M_tests_J45
  refine at_iconst hC ic_0 dX11_tests_45 ?_
  exact t_M_tests_J46 hC hR k_5 hk_5 σ 0
set_option maxRecDepth 100000 in
theorem t_M_tests_L5 (hC : CX z ad x cX11_tests RX11 3 (some .boolean)) (hR : x.2.2.1 = rmk 614 0 0) (n : Nat) (σ : MS) (a1 : Int32) : AT z x 3 (wM z τ) rI (eqA ad) 0 0 0 0 ad 5 [(0, .ref 0), (1, .int a1)] [] σ (M_tests_L5 n σ a1) := by
  revert σ a1
  show ∀ (σ : MS) (a1 : Int32), AT z x 3 (wM z τ) rI (eqA ad) 0 0 0 0 ad 5 [(0, .ref 0), (1, .int a1)] [] σ (M_tests_L5_r n σ a1)
  induction n with
  | zero => intro σ a1; exact at_none
  | succ n hk_5 =>
    intro σ a1
    unfold M_tests_L5_r
    refine at_aload_n (j := 0) hC rfl rfl dX11_tests_5 ?_
    refine gf_X11_235 hC dX11_tests_6 ?_
    refine at_if_ne (tgt := 50) hC dX11_tests_9 rfl (fun _ => ?_) (fun _ => ?_)
    · refine at_iload_n (j := 1) hC rfl rfl dX11_tests_50 ?_
      refine at_bz (fun hb => ?_)
      exact at_zret (F := eqA ad) (ra := rI) hC (nbz hb) dX11_tests_51 rfl (Nat.le_refl 0) (Nat.le_refl 0) rfl
    · refine at_aload_n (j := 0) hC rfl rfl dX11_tests_12 ?_
      refine at_callVpI hC hR lk_X11_239 (c_M_byteAt σ) dX11_tests_13 recX11 rfl rfl ⟨by decide, by decide⟩ (Nat.le_of_ble_eq_true rfl) ⟨Nat.le_refl 0, Nat.le_refl 0⟩ (fun r2 _ => ?_)
      refine at_bipush hC bi_32 dX11_tests_16 ?_
      refine at_icmp_ne (tgt := 50) hC dX11_tests_18 rfl (fun _ => ?_) (fun _ => ?_)
      · refine at_iload_n (j := 1) hC rfl rfl dX11_tests_50 ?_
        refine at_bz (fun hb => ?_)
        exact at_zret (F := eqA ad) (ra := rI) hC (nbz hb) dX11_tests_51 rfl (Nat.le_refl 0) (Nat.le_refl 0) rfl
      · refine at_aload_n (j := 0) hC rfl rfl dX11_tests_21 ?_
        refine at_ldcwS (m := 1000005) hC 21 rfl rfl dX11_tests_22 ?_
        refine at_callVU hC hR lk_X11_313 (c_M_musts σ 1000005) dX11_tests_25 recX11 rfl rfl ⟨by decide, by decide⟩ (Nat.le_of_ble_eq_true rfl) ⟨Nat.le_refl 0, Nat.le_refl 0⟩ (fun r3 r3s _ => ?_)
        refine at_aload_n (j := 0) hC rfl rfl dX11_tests_28 ?_
        refine at_callVI hC hR lk_X11_308 (c_M_test r3s) dX11_tests_29 recX11 rfl rfl ⟨by decide, by decide⟩ (Nat.le_of_ble_eq_true rfl) ⟨Nat.le_refl 0, Nat.le_refl 0⟩ (fun r4 r4s _ => ?_)
        refine at_istore_n (lv' := [(2, .int r4), (0, .ref 0), (1, .int a1)]) hC rfl dX11_tests_32 (by decide) rfl ?_
        refine at_iload_n (j := 2) hC rfl rfl dX11_tests_33 ?_
        refine at_if_eq (tgt := 45) hC dX11_tests_34 rfl (fun _ => ?_) (fun _ => ?_)
        · refine at_drop (lv' := [(0, .ref 0)]) [1] rfl ?_
          exact t_M_tests_J45 hC hR (M_tests_L5_r n) hk_5 r4s
        · refine at_iload_n (j := 0) hC rfl rfl dX11_tests_37 ?_
          refine at_if_eq (tgt := 45) hC dX11_tests_38 rfl (fun _ => ?_) (fun _ => ?_)
          · refine at_drop (lv' := [(0, .ref 0)]) [1] rfl ?_
            exact t_M_tests_J45 hC hR (M_tests_L5_r n) hk_5 r4s
          · refine at_iconst hC ic_1 dX11_tests_41 ?_
            refine at_goto (tgt := 46) hC dX11_tests_42 rfl ?_
            refine at_drop (lv' := [(0, .ref 0)]) [1] rfl ?_
            exact t_M_tests_J46 hC hR (M_tests_L5_r n) hk_5 r4s 1
set_option maxRecDepth 100000 in
theorem c_M_tests (σ : MS) : Ct z (wM z τ) rI eqA yX11_tests cX11_tests 3 (some .boolean) 614 0 0 [.ref 0] σ (M_tests σ) := by
  refine Ct.of (by decide) (Nat.le_of_ble_eq_true rfl) (fun ad x hC hR _ => ?_)
  show AT z x 3 (wM z τ) rI (eqA ad) 0 0 0 0 ad 0 [(0, .ref 0)] [] σ (M_tests σ)
  unfold M_tests
  refine at_aload_n (j := 0) hC rfl rfl dX11_tests_0 ?_
  refine at_callVI hC hR lk_X11_308 (c_M_test σ) dX11_tests_1 recX11 rfl rfl ⟨by decide, by decide⟩ (Nat.le_of_ble_eq_true rfl) ⟨Nat.le_refl 0, Nat.le_refl 0⟩ (fun r1 r1s _ => ?_)
  refine at_istore_n (lv' := [(1, .int r1), (0, .ref 0)]) hC rfl dX11_tests_4 (by decide) rfl ?_
  refine at_drop (lv' := [(0, .ref 0), (1, .int r1)]) [1, 0] rfl ?_
  exact t_M_tests_L5 hC hR 100000 r1s r1
theorem dX11_isSo_0 : decode cX11_isSo 0 = .ok (.aload_n 0, 1) := by decide +kernel
theorem dX11_isSo_1 : decode cX11_isSo 1 = .ok (.getfield 64, 3) := by decide +kernel
theorem dX11_isSo_4 : decode cX11_isSo 4 = .ok (.bipush 8, 2) := by decide +kernel
theorem dX11_isSo_6 : decode cX11_isSo 6 = .ok (.iload_n 1, 1) := by decide +kernel
theorem dX11_isSo_7 : decode cX11_isSo 7 = .ok (.imul, 1) := by decide +kernel
theorem dX11_isSo_8 : decode cX11_isSo 8 = .ok (.iload_n 2, 1) := by decide +kernel
theorem dX11_isSo_9 : decode cX11_isSo 9 = .ok (.iadd, 1) := by decide +kernel
theorem dX11_isSo_10 : decode cX11_isSo 10 = .ok (.iaload, 1) := by decide +kernel
theorem dX11_isSo_11 : decode cX11_isSo 11 = .ok (.iconst (-1), 1) := by decide +kernel
theorem dX11_isSo_12 : decode cX11_isSo 12 = .ok (.if_icmp .ne 5, 3) := by decide +kernel
theorem dX11_isSo_15 : decode cX11_isSo 15 = .ok (.iconst 1, 1) := by decide +kernel
theorem dX11_isSo_16 : decode cX11_isSo 16 = .ok (.ireturn, 1) := by decide +kernel
theorem dX11_isSo_17 : decode cX11_isSo 17 = .ok (.aload_n 0, 1) := by decide +kernel
theorem dX11_isSo_18 : decode cX11_isSo 18 = .ok (.iload_n 1, 1) := by decide +kernel
theorem dX11_isSo_19 : decode cX11_isSo 19 = .ok (.putfield 232, 3) := by decide +kernel
theorem dX11_isSo_22 : decode cX11_isSo 22 = .ok (.aload_n 0, 1) := by decide +kernel
theorem dX11_isSo_23 : decode cX11_isSo 23 = .ok (.aload_n 0, 1) := by decide +kernel
theorem dX11_isSo_24 : decode cX11_isSo 24 = .ok (.getfield 64, 3) := by decide +kernel
theorem dX11_isSo_27 : decode cX11_isSo 27 = .ok (.bipush 8, 2) := by decide +kernel
theorem dX11_isSo_29 : decode cX11_isSo 29 = .ok (.iload_n 1, 1) := by decide +kernel
theorem dX11_isSo_30 : decode cX11_isSo 30 = .ok (.imul, 1) := by decide +kernel
theorem dX11_isSo_31 : decode cX11_isSo 31 = .ok (.iload_n 2, 1) := by decide +kernel
theorem dX11_isSo_32 : decode cX11_isSo 32 = .ok (.iadd, 1) := by decide +kernel
theorem dX11_isSo_33 : decode cX11_isSo 33 = .ok (.iaload, 1) := by decide +kernel
theorem dX11_isSo_34 : decode cX11_isSo 34 = .ok (.putfield 229, 3) := by decide +kernel
theorem dX11_isSo_37 : decode cX11_isSo 37 = .ok (.aload_n 0, 1) := by decide +kernel
theorem dX11_isSo_38 : decode cX11_isSo 38 = .ok (.iconst 0, 1) := by decide +kernel
theorem dX11_isSo_39 : decode cX11_isSo 39 = .ok (.putfield 235, 3) := by decide +kernel
theorem dX11_isSo_42 : decode cX11_isSo 42 = .ok (.aload_n 0, 1) := by decide +kernel
theorem dX11_isSo_43 : decode cX11_isSo 43 = .ok (.invokevirtual 319, 3) := by decide +kernel
theorem dX11_isSo_46 : decode cX11_isSo 46 = .ok (.ireturn, 1) := by decide +kernel
set_option maxRecDepth 100000 in
theorem c_M_isSo (σ : MS) (p0 : Int32) (p1 : Int32) : Ct z (wM z τ) rI eqA yX11_isSo cX11_isSo 3 (some .boolean) 615 0 0 [.ref 0, .int p0, .int p1] σ (M_isSo σ p0 p1) := by
  refine Ct.of (by decide) (Nat.le_of_ble_eq_true rfl) (fun ad x hC hR _ => ?_)
  show AT z x 3 (wM z τ) rI (eqA ad) 0 0 0 0 ad 0 [(0, .ref 0), (1, .int p0), (2, .int p1)] [] σ (M_isSo σ p0 p1)
  unfold M_isSo
  refine at_aload_n (j := 0) hC rfl rfl dX11_isSo_0 ?_
  refine gf_X11_64 hC dX11_isSo_1 ?_
  refine at_bipush hC bi_8 dX11_isSo_4 ?_
  refine at_iload_n (j := 1) hC rfl rfl dX11_isSo_6 ?_
  refine at_imul hC dX11_isSo_7 ?_
  refine at_iload_n (j := 2) hC rfl rfl dX11_isSo_8 ?_
  refine at_iadd hC dX11_isSo_9 ?_
  refine at_iald hC 18 dX11_isSo_10 cl_18 (fun v1 => ?_)
  refine at_iconst hC ic_m1 dX11_isSo_11 ?_
  refine at_icmp_ne (tgt := 17) hC dX11_isSo_12 rfl (fun _ => ?_) (fun _ => ?_)
  · refine at_aload_n (j := 0) hC rfl rfl dX11_isSo_17 ?_
    refine at_iload_n (j := 1) hC rfl rfl dX11_isSo_18 ?_
    refine pf_X11_232 hC dX11_isSo_19 ?_
    refine at_aload_n (j := 0) hC rfl rfl dX11_isSo_22 ?_
    refine at_aload_n (j := 0) hC rfl rfl dX11_isSo_23 ?_
    refine gf_X11_64 hC dX11_isSo_24 ?_
    refine at_bipush hC bi_8 dX11_isSo_27 ?_
    refine at_iload_n (j := 1) hC rfl rfl dX11_isSo_29 ?_
    refine at_imul hC dX11_isSo_30 ?_
    refine at_iload_n (j := 2) hC rfl rfl dX11_isSo_31 ?_
    refine at_iadd hC dX11_isSo_32 ?_
    refine at_iald hC 18 dX11_isSo_33 cl_18 (fun v2 => ?_)
    refine pf_X11_229 hC dX11_isSo_34 ?_
    refine at_aload_n (j := 0) hC rfl rfl dX11_isSo_37 ?_
    refine at_iconst hC ic_0 dX11_isSo_38 ?_
    refine pf_X11_235 hC (Or.inl rfl) dX11_isSo_39 ?_
    refine at_aload_n (j := 0) hC rfl rfl dX11_isSo_42 ?_
    refine at_callVI hC hR lk_X11_319 (c_M_tests (sI (sI (sI σ 46 p0) 47 v2) 48 0)) dX11_isSo_43 recX11 rfl rfl ⟨by decide, by decide⟩ (Nat.le_of_ble_eq_true rfl) ⟨Nat.le_refl 0, Nat.le_refl 0⟩ (fun r3 r3s _ => ?_)
    refine at_bz (fun hb => ?_)
    exact at_zret (F := eqA ad) (ra := rI) hC (nbz hb) dX11_isSo_46 rfl (Nat.le_refl 0) (Nat.le_refl 0) rfl
  · refine at_iconst hC ic_1 dX11_isSo_15 ?_
    exact at_zret (F := eqA ad) (ra := rI) hC nb1 dX11_isSo_16 rfl (Nat.le_refl 0) (Nat.le_refl 0) rfl
theorem dX11_governs_0 : decode cX11_governs 0 = .ok (.iconst (-1), 1) := by decide +kernel
theorem dX11_governs_1 : decode cX11_governs 1 = .ok (.istore_n 3, 1) := by decide +kernel
theorem dX11_governs_2 : decode cX11_governs 2 = .ok (.iconst 0, 1) := by decide +kernel
theorem dX11_governs_3 : decode cX11_governs 3 = .ok (.istore 4, 2) := by decide +kernel
theorem dX11_governs_5 : decode cX11_governs 5 = .ok (.iload 4, 2) := by decide +kernel
theorem dX11_governs_7 : decode cX11_governs 7 = .ok (.aload_n 0, 1) := by decide +kernel
theorem dX11_governs_8 : decode cX11_governs 8 = .ok (.getfield 326, 3) := by decide +kernel
theorem dX11_governs_11 : decode cX11_governs 11 = .ok (.aload_n 0, 1) := by decide +kernel
theorem dX11_governs_12 : decode cX11_governs 12 = .ok (.getfield 332, 3) := by decide +kernel
theorem dX11_governs_15 : decode cX11_governs 15 = .ok (.iadd, 1) := by decide +kernel
theorem dX11_governs_16 : decode cX11_governs 16 = .ok (.if_icmp .ge 115, 3) := by decide +kernel
theorem dX11_governs_19 : decode cX11_governs 19 = .ok (.iconst 0, 1) := by decide +kernel
theorem dX11_governs_20 : decode cX11_governs 20 = .ok (.istore 5, 2) := by decide +kernel
theorem dX11_governs_22 : decode cX11_governs 22 = .ok (.iload 5, 2) := by decide +kernel
theorem dX11_governs_24 : decode cX11_governs 24 = .ok (.aload_n 0, 1) := by decide +kernel
theorem dX11_governs_25 : decode cX11_governs 25 = .ok (.getfield 45, 3) := by decide +kernel
theorem dX11_governs_28 : decode cX11_governs 28 = .ok (.iload 4, 2) := by decide +kernel
theorem dX11_governs_30 : decode cX11_governs 30 = .ok (.iaload, 1) := by decide +kernel
theorem dX11_governs_31 : decode cX11_governs 31 = .ok (.if_icmp .ge 94, 3) := by decide +kernel
theorem dX11_governs_34 : decode cX11_governs 34 = .ok (.aload_n 0, 1) := by decide +kernel
theorem dX11_governs_35 : decode cX11_governs 35 = .ok (.getfield 52, 3) := by decide +kernel
theorem dX11_governs_38 : decode cX11_governs 38 = .ok (.bipush 8, 2) := by decide +kernel
theorem dX11_governs_40 : decode cX11_governs 40 = .ok (.iload 4, 2) := by decide +kernel
theorem dX11_governs_42 : decode cX11_governs 42 = .ok (.imul, 1) := by decide +kernel
theorem dX11_governs_43 : decode cX11_governs 43 = .ok (.iload 5, 2) := by decide +kernel
theorem dX11_governs_45 : decode cX11_governs 45 = .ok (.iadd, 1) := by decide +kernel
theorem dX11_governs_46 : decode cX11_governs 46 = .ok (.iaload, 1) := by decide +kernel
theorem dX11_governs_47 : decode cX11_governs 47 = .ok (.iload_n 1, 1) := by decide +kernel
theorem dX11_governs_48 : decode cX11_governs 48 = .ok (.if_icmp .ne 43, 3) := by decide +kernel
theorem dX11_governs_51 : decode cX11_governs 51 = .ok (.aload_n 0, 1) := by decide +kernel
theorem dX11_governs_52 : decode cX11_governs 52 = .ok (.iload 4, 2) := by decide +kernel
theorem dX11_governs_54 : decode cX11_governs 54 = .ok (.iload 5, 2) := by decide +kernel
theorem dX11_governs_56 : decode cX11_governs 56 = .ok (.iload_n 2, 1) := by decide +kernel
theorem dX11_governs_57 : decode cX11_governs 57 = .ok (.invokevirtual 335, 3) := by decide +kernel
theorem dX11_governs_60 : decode cX11_governs 60 = .ok (.ifCond .eq 31, 3) := by decide +kernel
theorem dX11_governs_63 : decode cX11_governs 63 = .ok (.iload_n 3, 1) := by decide +kernel
theorem dX11_governs_64 : decode cX11_governs 64 = .ok (.iconst (-1), 1) := by decide +kernel
theorem dX11_governs_65 : decode cX11_governs 65 = .ok (.if_icmp .eq 22, 3) := by decide +kernel
theorem dX11_governs_68 : decode cX11_governs 68 = .ok (.aload_n 0, 1) := by decide +kernel
theorem dX11_governs_69 : decode cX11_governs 69 = .ok (.getfield 42, 3) := by decide +kernel
theorem dX11_governs_72 : decode cX11_governs 72 = .ok (.iload 4, 2) := by decide +kernel
theorem dX11_governs_74 : decode cX11_governs 74 = .ok (.iaload, 1) := by decide +kernel
theorem dX11_governs_75 : decode cX11_governs 75 = .ok (.aload_n 0, 1) := by decide +kernel
theorem dX11_governs_76 : decode cX11_governs 76 = .ok (.getfield 42, 3) := by decide +kernel
theorem dX11_governs_79 : decode cX11_governs 79 = .ok (.iload_n 3, 1) := by decide +kernel
theorem dX11_governs_80 : decode cX11_governs 80 = .ok (.bipush 8, 2) := by decide +kernel
theorem dX11_governs_82 : decode cX11_governs 82 = .ok (.idiv, 1) := by decide +kernel
theorem dX11_governs_83 : decode cX11_governs 83 = .ok (.iaload, 1) := by decide +kernel
theorem dX11_governs_84 : decode cX11_governs 84 = .ok (.if_icmp .lt 7, 3) := by decide +kernel
theorem dX11_governs_87 : decode cX11_governs 87 = .ok (.iconst 1, 1) := by decide +kernel
theorem dX11_governs_88 : decode cX11_governs 88 = .ok (.goto 4, 3) := by decide +kernel
theorem dX11_governs_91 : decode cX11_governs 91 = .ok (.iconst 0, 1) := by decide +kernel
theorem dX11_governs_92 : decode cX11_governs 92 = .ok (.istore 6, 2) := by decide +kernel
theorem dX11_governs_94 : decode cX11_governs 94 = .ok (.iload 6, 2) := by decide +kernel
theorem dX11_governs_96 : decode cX11_governs 96 = .ok (.ifCond .eq 23, 3) := by decide +kernel
theorem dX11_governs_99 : decode cX11_governs 99 = .ok (.aload_n 0, 1) := by decide +kernel
theorem dX11_governs_100 : decode cX11_governs 100 = .ok (.iload 4, 2) := by decide +kernel
theorem dX11_governs_102 : decode cX11_governs 102 = .ok (.iload 5, 2) := by decide +kernel
theorem dX11_governs_104 : decode cX11_governs 104 = .ok (.invokevirtual 338, 3) := by decide +kernel
theorem dX11_governs_107 : decode cX11_governs 107 = .ok (.ifCond .eq 12, 3) := by decide +kernel
theorem dX11_governs_110 : decode cX11_governs 110 = .ok (.bipush 8, 2) := by decide +kernel
theorem dX11_governs_112 : decode cX11_governs 112 = .ok (.iload 4, 2) := by decide +kernel
theorem dX11_governs_114 : decode cX11_governs 114 = .ok (.imul, 1) := by decide +kernel
theorem dX11_governs_115 : decode cX11_governs 115 = .ok (.iload 5, 2) := by decide +kernel
theorem dX11_governs_117 : decode cX11_governs 117 = .ok (.iadd, 1) := by decide +kernel
theorem dX11_governs_118 : decode cX11_governs 118 = .ok (.istore_n 3, 1) := by decide +kernel
theorem dX11_governs_119 : decode cX11_governs 119 = .ok (.iinc 5 1, 3) := by decide +kernel
theorem dX11_governs_122 : decode cX11_governs 122 = .ok (.goto (-100), 3) := by decide +kernel
theorem dX11_governs_125 : decode cX11_governs 125 = .ok (.iinc 4 1, 3) := by decide +kernel
theorem dX11_governs_128 : decode cX11_governs 128 = .ok (.goto (-123), 3) := by decide +kernel
theorem dX11_governs_131 : decode cX11_governs 131 = .ok (.iload_n 3, 1) := by decide +kernel
theorem dX11_governs_132 : decode cX11_governs 132 = .ok (.ireturn, 1) := by decide +kernel
set_option maxRecDepth 100000 in
theorem t_M_governs_J119 (hC : CX z ad x cX11_governs RX11 7 (some .int)) (hR : x.2.2.1 = rmk 616 0 0) (k_5 : MS → Int32 → Int32 → Int32 → Int32 → Option (Int32 × MS)) (hk_5 : ∀ (σ : MS) (a1 : Int32) (a2 : Int32) (a3 : Int32) (a4 : Int32), AT z x 7 (wM z τ) rI (eqA ad) 0 0 0 0 ad 5 [(0, .ref 0), (1, .int a1), (2, .int a2), (3, .int a3), (4, .int a4)] [] σ (k_5 σ a1 a2 a3 a4)) (k_22 : MS → Int32 → Int32 → Int32 → Int32 → Int32 → Option (Int32 × MS)) (hk_22 : ∀ (σ : MS) (a1 : Int32) (a2 : Int32) (a3 : Int32) (a4 : Int32) (a5 : Int32), AT z x 7 (wM z τ) rI (eqA ad) 0 0 0 0 ad 22 [(0, .ref 0), (1, .int a1), (2, .int a2), (3, .int a3), (4, .int a4), (5, .int a5)] [] σ (k_22 σ a1 a2 a3 a4 a5)) (σ : MS) (a1 : Int32) (a2 : Int32) (a3 : Int32) (a4 : Int32) (a5 : Int32) : AT z x 7 (wM z τ) rI (eqA ad) 0 0 0 0 ad 119 [(0, .ref 0), (1, .int a1), (2, .int a2), (3, .int a3), (4, .int a4), (5, .int a5)] [] σ (M_governs_J119 k_5 k_22 σ a1 a2 a3 a4 a5) := by
  unfold M_governs_J119
  refine at_iinc (j := 5) (v := a5 + 1) (lv' := [(5, .int (a5 + 1)), (0, .ref 0), (1, .int a1), (2, .int a2), (3, .int a3), (4, .int a4)]) hC dX11_governs_119 rfl rfl (by decide) rfl ?_
  refine at_goto (tgt := 22) hC dX11_governs_122 rfl ?_
  refine at_drop (lv' := [(0, .ref 0), (1, .int a1), (2, .int a2), (3, .int a3), (4, .int a4), (5, .int (a5 + 1))]) [1, 2, 3, 4, 5, 0] rfl ?_
  exact hk_22 σ a1 a2 a3 a4 (a5 + 1)
set_option maxRecDepth 100000 in
theorem t_M_governs_J92 (hC : CX z ad x cX11_governs RX11 7 (some .int)) (hR : x.2.2.1 = rmk 616 0 0) (k_5 : MS → Int32 → Int32 → Int32 → Int32 → Option (Int32 × MS)) (hk_5 : ∀ (σ : MS) (a1 : Int32) (a2 : Int32) (a3 : Int32) (a4 : Int32), AT z x 7 (wM z τ) rI (eqA ad) 0 0 0 0 ad 5 [(0, .ref 0), (1, .int a1), (2, .int a2), (3, .int a3), (4, .int a4)] [] σ (k_5 σ a1 a2 a3 a4)) (k_22 : MS → Int32 → Int32 → Int32 → Int32 → Int32 → Option (Int32 × MS)) (hk_22 : ∀ (σ : MS) (a1 : Int32) (a2 : Int32) (a3 : Int32) (a4 : Int32) (a5 : Int32), AT z x 7 (wM z τ) rI (eqA ad) 0 0 0 0 ad 22 [(0, .ref 0), (1, .int a1), (2, .int a2), (3, .int a3), (4, .int a4), (5, .int a5)] [] σ (k_22 σ a1 a2 a3 a4 a5)) (σ : MS) (a1 : Int32) (a2 : Int32) (a3 : Int32) (a4 : Int32) (a5 : Int32) (s0 : Int32) : AT z x 7 (wM z τ) rI (eqA ad) 0 0 0 0 ad 92 [(0, .ref 0), (1, .int a1), (2, .int a2), (3, .int a3), (4, .int a4), (5, .int a5)] [.int s0] σ (M_governs_J92 k_5 k_22 σ a1 a2 a3 a4 a5 s0) := by
  unfold M_governs_J92
  refine at_istore (lv' := [(6, .int s0), (0, .ref 0), (1, .int a1), (2, .int a2), (3, .int a3), (4, .int a4), (5, .int a5)]) hC dX11_governs_92 (by decide) rfl ?_
  refine at_iload (j := 0) hC rfl dX11_governs_94 ?_
  refine at_if_eq (tgt := 119) hC dX11_governs_96 rfl (fun _ => ?_) (fun _ => ?_)
  · refine at_drop (lv' := [(0, .ref 0), (1, .int a1), (2, .int a2), (3, .int a3), (4, .int a4), (5, .int a5)]) [1, 2, 3, 4, 5, 6] rfl ?_
    exact t_M_governs_J119 hC hR k_5 hk_5 k_22 hk_22 σ a1 a2 a3 a4 a5
  · refine at_aload_n (j := 1) hC rfl rfl dX11_governs_99 ?_
    refine at_iload (j := 5) hC rfl dX11_governs_100 ?_
    refine at_iload (j := 6) hC rfl dX11_governs_102 ?_
    refine at_callVI hC hR lk_X11_338 (c_M_isSo σ a4 a5) dX11_governs_104 recX11 rfl rfl ⟨by decide, by decide⟩ (Nat.le_of_ble_eq_true rfl) ⟨Nat.le_refl 0, Nat.le_refl 0⟩ (fun r3 r3s _ => ?_)
    refine at_if_eq (tgt := 119) hC dX11_governs_107 rfl (fun _ => ?_) (fun _ => ?_)
    · refine at_drop (lv' := [(0, .ref 0), (1, .int a1), (2, .int a2), (3, .int a3), (4, .int a4), (5, .int a5)]) [1, 2, 3, 4, 5, 6] rfl ?_
      exact t_M_governs_J119 hC hR k_5 hk_5 k_22 hk_22 r3s a1 a2 a3 a4 a5
    · refine at_bipush hC bi_8 dX11_governs_110 ?_
      refine at_iload (j := 5) hC rfl dX11_governs_112 ?_
      refine at_imul hC dX11_governs_114 ?_
      refine at_iload (j := 6) hC rfl dX11_governs_115 ?_
      refine at_iadd hC dX11_governs_117 ?_
      refine at_istore_n (lv' := [(3, .int ((8 * a4) + a5)), (6, .int s0), (0, .ref 0), (1, .int a1), (2, .int a2), (4, .int a4), (5, .int a5)]) hC rfl dX11_governs_118 (by decide) rfl ?_
      refine at_drop (lv' := [(0, .ref 0), (1, .int a1), (2, .int a2), (3, .int ((8 * a4) + a5)), (4, .int a4), (5, .int a5)]) [2, 3, 4, 0, 5, 6] rfl ?_
      exact t_M_governs_J119 hC hR k_5 hk_5 k_22 hk_22 r3s a1 a2 ((8 * a4) + a5) a4 a5
set_option maxRecDepth 100000 in
theorem t_M_governs_J91 (hC : CX z ad x cX11_governs RX11 7 (some .int)) (hR : x.2.2.1 = rmk 616 0 0) (k_5 : MS → Int32 → Int32 → Int32 → Int32 → Option (Int32 × MS)) (hk_5 : ∀ (σ : MS) (a1 : Int32) (a2 : Int32) (a3 : Int32) (a4 : Int32), AT z x 7 (wM z τ) rI (eqA ad) 0 0 0 0 ad 5 [(0, .ref 0), (1, .int a1), (2, .int a2), (3, .int a3), (4, .int a4)] [] σ (k_5 σ a1 a2 a3 a4)) (k_22 : MS → Int32 → Int32 → Int32 → Int32 → Int32 → Option (Int32 × MS)) (hk_22 : ∀ (σ : MS) (a1 : Int32) (a2 : Int32) (a3 : Int32) (a4 : Int32) (a5 : Int32), AT z x 7 (wM z τ) rI (eqA ad) 0 0 0 0 ad 22 [(0, .ref 0), (1, .int a1), (2, .int a2), (3, .int a3), (4, .int a4), (5, .int a5)] [] σ (k_22 σ a1 a2 a3 a4 a5)) (σ : MS) (a1 : Int32) (a2 : Int32) (a3 : Int32) (a4 : Int32) (a5 : Int32) : AT z x 7 (wM z τ) rI (eqA ad) 0 0 0 0 ad 91 [(0, .ref 0), (1, .int a1), (2, .int a2), (3, .int a3), (4, .int a4), (5, .int a5)] [] σ (M_governs_J91 k_5 k_22 σ a1 a2 a3 a4 a5) := by
  unfold M_governs_J91
  refine at_iconst hC ic_0 dX11_governs_91 ?_
  exact t_M_governs_J92 hC hR k_5 hk_5 k_22 hk_22 σ a1 a2 a3 a4 a5 0
set_option maxRecDepth 100000 in
theorem t_M_governs_J87 (hC : CX z ad x cX11_governs RX11 7 (some .int)) (hR : x.2.2.1 = rmk 616 0 0) (k_5 : MS → Int32 → Int32 → Int32 → Int32 → Option (Int32 × MS)) (hk_5 : ∀ (σ : MS) (a1 : Int32) (a2 : Int32) (a3 : Int32) (a4 : Int32), AT z x 7 (wM z τ) rI (eqA ad) 0 0 0 0 ad 5 [(0, .ref 0), (1, .int a1), (2, .int a2), (3, .int a3), (4, .int a4)] [] σ (k_5 σ a1 a2 a3 a4)) (k_22 : MS → Int32 → Int32 → Int32 → Int32 → Int32 → Option (Int32 × MS)) (hk_22 : ∀ (σ : MS) (a1 : Int32) (a2 : Int32) (a3 : Int32) (a4 : Int32) (a5 : Int32), AT z x 7 (wM z τ) rI (eqA ad) 0 0 0 0 ad 22 [(0, .ref 0), (1, .int a1), (2, .int a2), (3, .int a3), (4, .int a4), (5, .int a5)] [] σ (k_22 σ a1 a2 a3 a4 a5)) (σ : MS) (a1 : Int32) (a2 : Int32) (a3 : Int32) (a4 : Int32) (a5 : Int32) : AT z x 7 (wM z τ) rI (eqA ad) 0 0 0 0 ad 87 [(0, .ref 0), (1, .int a1), (2, .int a2), (3, .int a3), (4, .int a4), (5, .int a5)] [] σ (M_governs_J87 k_5 k_22 σ a1 a2 a3 a4 a5) := by
  unfold M_governs_J87
  refine at_iconst hC ic_1 dX11_governs_87 ?_
  refine at_goto (tgt := 92) hC dX11_governs_88 rfl ?_
  exact t_M_governs_J92 hC hR k_5 hk_5 k_22 hk_22 σ a1 a2 a3 a4 a5 1
set_option maxRecDepth 100000 in
theorem t_M_governs_L22 (hC : CX z ad x cX11_governs RX11 7 (some .int)) (hR : x.2.2.1 = rmk 616 0 0) (k_5 : MS → Int32 → Int32 → Int32 → Int32 → Option (Int32 × MS)) (hk_5 : ∀ (σ : MS) (a1 : Int32) (a2 : Int32) (a3 : Int32) (a4 : Int32), AT z x 7 (wM z τ) rI (eqA ad) 0 0 0 0 ad 5 [(0, .ref 0), (1, .int a1), (2, .int a2), (3, .int a3), (4, .int a4)] [] σ (k_5 σ a1 a2 a3 a4)) (n : Nat) (σ : MS) (a1 : Int32) (a2 : Int32) (a3 : Int32) (a4 : Int32) (a5 : Int32) : AT z x 7 (wM z τ) rI (eqA ad) 0 0 0 0 ad 22 [(0, .ref 0), (1, .int a1), (2, .int a2), (3, .int a3), (4, .int a4), (5, .int a5)] [] σ (M_governs_L22 k_5 n σ a1 a2 a3 a4 a5) := by
  revert σ a1 a2 a3 a4 a5
  show ∀ (σ : MS) (a1 : Int32) (a2 : Int32) (a3 : Int32) (a4 : Int32) (a5 : Int32), AT z x 7 (wM z τ) rI (eqA ad) 0 0 0 0 ad 22 [(0, .ref 0), (1, .int a1), (2, .int a2), (3, .int a3), (4, .int a4), (5, .int a5)] [] σ (M_governs_L22_r k_5 n σ a1 a2 a3 a4 a5)
  induction n with
  | zero => intro σ a1 a2 a3 a4 a5; exact at_none
  | succ n hk_22 =>
    intro σ a1 a2 a3 a4 a5
    unfold M_governs_L22_r
    refine at_iload (j := 5) hC rfl dX11_governs_22 ?_
    refine at_aload_n (j := 0) hC rfl rfl dX11_governs_24 ?_
    refine gf_X11_45 hC dX11_governs_25 ?_
    refine at_iload (j := 4) hC rfl dX11_governs_28 ?_
    refine at_iald hC 12 dX11_governs_30 cl_12 (fun v1 => ?_)
    refine at_icmp_ge (tgt := 125) hC dX11_governs_31 rfl (fun _ => ?_) (fun _ => ?_)
    · refine at_iinc (j := 4) (v := a4 + 1) (lv' := [(4, .int (a4 + 1)), (0, .ref 0), (1, .int a1), (2, .int a2), (3, .int a3), (5, .int a5)]) hC dX11_governs_125 rfl rfl (by decide) rfl ?_
      refine at_goto (tgt := 5) hC dX11_governs_128 rfl ?_
      refine at_drop (lv' := [(0, .ref 0), (1, .int a1), (2, .int a2), (3, .int a3), (4, .int (a4 + 1))]) [1, 2, 3, 4, 0] rfl ?_
      exact hk_5 σ a1 a2 a3 (a4 + 1)
    · refine at_aload_n (j := 0) hC rfl rfl dX11_governs_34 ?_
      refine gf_X11_52 hC dX11_governs_35 ?_
      refine at_bipush hC bi_8 dX11_governs_38 ?_
      refine at_iload (j := 4) hC rfl dX11_governs_40 ?_
      refine at_imul hC dX11_governs_42 ?_
      refine at_iload (j := 5) hC rfl dX11_governs_43 ?_
      refine at_iadd hC dX11_governs_45 ?_
      refine at_iald hC 14 dX11_governs_46 cl_14 (fun v2 => ?_)
      refine at_iload_n (j := 1) hC rfl rfl dX11_governs_47 ?_
      refine at_icmp_ne (tgt := 91) hC dX11_governs_48 rfl (fun _ => ?_) (fun _ => ?_)
      · exact t_M_governs_J91 hC hR k_5 hk_5 (M_governs_L22_r k_5 n) hk_22 σ a1 a2 a3 a4 a5
      · refine at_aload_n (j := 0) hC rfl rfl dX11_governs_51 ?_
        refine at_iload (j := 4) hC rfl dX11_governs_52 ?_
        refine at_iload (j := 5) hC rfl dX11_governs_54 ?_
        refine at_iload_n (j := 2) hC rfl rfl dX11_governs_56 ?_
        refine at_callVpI hC hR lk_X11_335 (c_M_isForce σ a4 a5 a2) dX11_governs_57 recX11 rfl rfl ⟨by decide, by decide⟩ (Nat.le_of_ble_eq_true rfl) ⟨Nat.le_refl 0, Nat.le_refl 0⟩ (fun r4 _ => ?_)
        refine at_if_eq (tgt := 91) hC dX11_governs_60 rfl (fun _ => ?_) (fun _ => ?_)
        · exact t_M_governs_J91 hC hR k_5 hk_5 (M_governs_L22_r k_5 n) hk_22 σ a1 a2 a3 a4 a5
        · refine at_iload_n (j := 3) hC rfl rfl dX11_governs_63 ?_
          refine at_iconst hC ic_m1 dX11_governs_64 ?_
          refine at_icmp_eq (tgt := 87) hC dX11_governs_65 rfl (fun _ => ?_) (fun _ => ?_)
          · exact t_M_governs_J87 hC hR k_5 hk_5 (M_governs_L22_r k_5 n) hk_22 σ a1 a2 a3 a4 a5
          · refine at_aload_n (j := 0) hC rfl rfl dX11_governs_68 ?_
            refine gf_X11_42 hC dX11_governs_69 ?_
            refine at_iload (j := 4) hC rfl dX11_governs_72 ?_
            refine at_iald hC 11 dX11_governs_74 cl_11 (fun v5 => ?_)
            refine at_aload_n (j := 0) hC rfl rfl dX11_governs_75 ?_
            refine gf_X11_42 hC dX11_governs_76 ?_
            refine at_iload_n (j := 3) hC rfl rfl dX11_governs_79 ?_
            refine at_bipush hC bi_8 dX11_governs_80 ?_
            refine at_idiv hC (by decide) dX11_governs_82 ?_
            refine at_iald hC 11 dX11_governs_83 cl_11 (fun v6 => ?_)
            refine at_icmp_lt (tgt := 91) hC dX11_governs_84 rfl (fun _ => ?_) (fun _ => ?_)
            · exact t_M_governs_J91 hC hR k_5 hk_5 (M_governs_L22_r k_5 n) hk_22 σ a1 a2 a3 a4 a5
            · exact t_M_governs_J87 hC hR k_5 hk_5 (M_governs_L22_r k_5 n) hk_22 σ a1 a2 a3 a4 a5
set_option maxRecDepth 100000 in
theorem t_M_governs_L5 (hC : CX z ad x cX11_governs RX11 7 (some .int)) (hR : x.2.2.1 = rmk 616 0 0) (n : Nat) (σ : MS) (a1 : Int32) (a2 : Int32) (a3 : Int32) (a4 : Int32) : AT z x 7 (wM z τ) rI (eqA ad) 0 0 0 0 ad 5 [(0, .ref 0), (1, .int a1), (2, .int a2), (3, .int a3), (4, .int a4)] [] σ (M_governs_L5 n σ a1 a2 a3 a4) := by
  revert σ a1 a2 a3 a4
  show ∀ (σ : MS) (a1 : Int32) (a2 : Int32) (a3 : Int32) (a4 : Int32), AT z x 7 (wM z τ) rI (eqA ad) 0 0 0 0 ad 5 [(0, .ref 0), (1, .int a1), (2, .int a2), (3, .int a3), (4, .int a4)] [] σ (M_governs_L5_r n σ a1 a2 a3 a4)
  induction n with
  | zero => intro σ a1 a2 a3 a4; exact at_none
  | succ n hk_5 =>
    intro σ a1 a2 a3 a4
    unfold M_governs_L5_r
    refine at_iload (j := 4) hC rfl dX11_governs_5 ?_
    refine at_aload_n (j := 0) hC rfl rfl dX11_governs_7 ?_
    refine gf_X11_326 hC dX11_governs_8 ?_
    refine at_aload_n (j := 0) hC rfl rfl dX11_governs_11 ?_
    refine gf_X11_332 hC dX11_governs_12 ?_
    refine at_iadd hC dX11_governs_15 ?_
    refine at_icmp_ge (tgt := 131) hC dX11_governs_16 rfl (fun _ => ?_) (fun _ => ?_)
    · refine at_iload_n (j := 3) hC rfl rfl dX11_governs_131 ?_
      exact at_iret (F := eqA ad) (ra := rI) hC dX11_governs_132 rfl (Nat.le_refl 0) (Nat.le_refl 0) rfl
    · refine at_iconst hC ic_0 dX11_governs_19 ?_
      refine at_istore (lv' := [(5, .int 0), (0, .ref 0), (1, .int a1), (2, .int a2), (3, .int a3), (4, .int a4)]) hC dX11_governs_20 (by decide) rfl ?_
      refine at_drop (lv' := [(0, .ref 0), (1, .int a1), (2, .int a2), (3, .int a3), (4, .int a4), (5, .int 0)]) [1, 2, 3, 4, 5, 0] rfl ?_
      exact t_M_governs_L22 hC hR (M_governs_L5_r n) hk_5 100000 σ a1 a2 a3 a4 0
set_option maxRecDepth 100000 in
theorem c_M_governs (σ : MS) (p0 : Int32) (p1 : Int32) : Ct z (wM z τ) rI eqA yX11_governs cX11_governs 7 (some .int) 616 0 0 [.ref 0, .int p0, .int p1] σ (M_governs σ p0 p1) := by
  refine Ct.of (by decide) (Nat.le_of_ble_eq_true rfl) (fun ad x hC hR _ => ?_)
  show AT z x 7 (wM z τ) rI (eqA ad) 0 0 0 0 ad 0 [(0, .ref 0), (1, .int p0), (2, .int p1)] [] σ (M_governs σ p0 p1)
  unfold M_governs
  refine at_iconst hC ic_m1 dX11_governs_0 ?_
  refine at_istore_n (lv' := [(3, .int (-1)), (0, .ref 0), (1, .int p0), (2, .int p1)]) hC rfl dX11_governs_1 (by decide) rfl ?_
  refine at_iconst hC ic_0 dX11_governs_2 ?_
  refine at_istore (lv' := [(4, .int 0), (3, .int (-1)), (0, .ref 0), (1, .int p0), (2, .int p1)]) hC dX11_governs_3 (by decide) rfl ?_
  refine at_drop (lv' := [(0, .ref 0), (1, .int p0), (2, .int p1), (3, .int (-1)), (4, .int 0)]) [2, 3, 4, 1, 0] rfl ?_
  exact t_M_governs_L5 hC hR 100000 σ p0 p1 (-1) 0
theorem dX11_comesTo_0 : decode cX11_comesTo 0 = .ok (.aload_n 0, 1) := by decide +kernel
theorem dX11_comesTo_1 : decode cX11_comesTo 1 = .ok (.iload_n 1, 1) := by decide +kernel
theorem dX11_comesTo_2 : decode cX11_comesTo 2 = .ok (.putfield 232, 3) := by decide +kernel
theorem dX11_comesTo_5 : decode cX11_comesTo 5 = .ok (.aload_n 0, 1) := by decide +kernel
theorem dX11_comesTo_6 : decode cX11_comesTo 6 = .ok (.aload_n 0, 1) := by decide +kernel
theorem dX11_comesTo_7 : decode cX11_comesTo 7 = .ok (.getfield 61, 3) := by decide +kernel
theorem dX11_comesTo_10 : decode cX11_comesTo 10 = .ok (.bipush 8, 2) := by decide +kernel
theorem dX11_comesTo_12 : decode cX11_comesTo 12 = .ok (.iload_n 1, 1) := by decide +kernel
theorem dX11_comesTo_13 : decode cX11_comesTo 13 = .ok (.imul, 1) := by decide +kernel
theorem dX11_comesTo_14 : decode cX11_comesTo 14 = .ok (.iload_n 2, 1) := by decide +kernel
theorem dX11_comesTo_15 : decode cX11_comesTo 15 = .ok (.iadd, 1) := by decide +kernel
theorem dX11_comesTo_16 : decode cX11_comesTo 16 = .ok (.iaload, 1) := by decide +kernel
theorem dX11_comesTo_17 : decode cX11_comesTo 17 = .ok (.putfield 229, 3) := by decide +kernel
theorem dX11_comesTo_20 : decode cX11_comesTo 20 = .ok (.aload_n 0, 1) := by decide +kernel
theorem dX11_comesTo_21 : decode cX11_comesTo 21 = .ok (.iconst 0, 1) := by decide +kernel
theorem dX11_comesTo_22 : decode cX11_comesTo 22 = .ok (.putfield 235, 3) := by decide +kernel
theorem dX11_comesTo_25 : decode cX11_comesTo 25 = .ok (.aload_n 0, 1) := by decide +kernel
theorem dX11_comesTo_26 : decode cX11_comesTo 26 = .ok (.invokevirtual 293, 3) := by decide +kernel
theorem dX11_comesTo_29 : decode cX11_comesTo 29 = .ok (.istore_n 3, 1) := by decide +kernel
theorem dX11_comesTo_30 : decode cX11_comesTo 30 = .ok (.iload_n 3, 1) := by decide +kernel
theorem dX11_comesTo_31 : decode cX11_comesTo 31 = .ok (.ifCond .ge 7, 3) := by decide +kernel
theorem dX11_comesTo_34 : decode cX11_comesTo 34 = .ok (.iconst 0, 1) := by decide +kernel
theorem dX11_comesTo_35 : decode cX11_comesTo 35 = .ok (.goto 17, 3) := by decide +kernel
theorem dX11_comesTo_38 : decode cX11_comesTo 38 = .ok (.iload_n 3, 1) := by decide +kernel
theorem dX11_comesTo_39 : decode cX11_comesTo 39 = .ok (.sipush 9999, 3) := by decide +kernel
theorem dX11_comesTo_42 : decode cX11_comesTo 42 = .ok (.if_icmp .le 9, 3) := by decide +kernel
theorem dX11_comesTo_45 : decode cX11_comesTo 45 = .ok (.sipush 9999, 3) := by decide +kernel
theorem dX11_comesTo_48 : decode cX11_comesTo 48 = .ok (.goto 4, 3) := by decide +kernel
theorem dX11_comesTo_51 : decode cX11_comesTo 51 = .ok (.iload_n 3, 1) := by decide +kernel
theorem dX11_comesTo_52 : decode cX11_comesTo 52 = .ok (.ireturn, 1) := by decide +kernel
set_option maxRecDepth 100000 in
theorem c_M_comesTo (σ : MS) (p0 : Int32) (p1 : Int32) : Ct z (wM z τ) rI eqA yX11_comesTo cX11_comesTo 4 (some .int) 613 0 0 [.ref 0, .int p0, .int p1] σ (M_comesTo σ p0 p1) := by
  refine Ct.of (by decide) (Nat.le_of_ble_eq_true rfl) (fun ad x hC hR _ => ?_)
  show AT z x 4 (wM z τ) rI (eqA ad) 0 0 0 0 ad 0 [(0, .ref 0), (1, .int p0), (2, .int p1)] [] σ (M_comesTo σ p0 p1)
  unfold M_comesTo
  refine at_aload_n (j := 0) hC rfl rfl dX11_comesTo_0 ?_
  refine at_iload_n (j := 1) hC rfl rfl dX11_comesTo_1 ?_
  refine pf_X11_232 hC dX11_comesTo_2 ?_
  refine at_aload_n (j := 0) hC rfl rfl dX11_comesTo_5 ?_
  refine at_aload_n (j := 0) hC rfl rfl dX11_comesTo_6 ?_
  refine gf_X11_61 hC dX11_comesTo_7 ?_
  refine at_bipush hC bi_8 dX11_comesTo_10 ?_
  refine at_iload_n (j := 1) hC rfl rfl dX11_comesTo_12 ?_
  refine at_imul hC dX11_comesTo_13 ?_
  refine at_iload_n (j := 2) hC rfl rfl dX11_comesTo_14 ?_
  refine at_iadd hC dX11_comesTo_15 ?_
  refine at_iald hC 17 dX11_comesTo_16 cl_17 (fun v1 => ?_)
  refine pf_X11_229 hC dX11_comesTo_17 ?_
  refine at_aload_n (j := 0) hC rfl rfl dX11_comesTo_20 ?_
  refine at_iconst hC ic_0 dX11_comesTo_21 ?_
  refine pf_X11_235 hC (Or.inl rfl) dX11_comesTo_22 ?_
  refine at_aload_n (j := 0) hC rfl rfl dX11_comesTo_25 ?_
  refine at_callVI hC hR lk_X11_293 (c_M_sums (M_oneR 200) (c_M_oneR 200) (sI (sI (sI σ 46 p0) 47 v1) 48 0)) dX11_comesTo_26 recX11 rfl rfl ⟨by decide, by decide⟩ (Nat.le_of_ble_eq_true rfl) ⟨Nat.le_refl 0, Nat.le_refl 0⟩ (fun r2 r2s _ => ?_)
  refine at_istore_n (lv' := [(3, .int r2), (0, .ref 0), (1, .int p0), (2, .int p1)]) hC rfl dX11_comesTo_29 (by decide) rfl ?_
  refine at_iload_n (j := 0) hC rfl rfl dX11_comesTo_30 ?_
  refine at_if_ge (tgt := 38) hC dX11_comesTo_31 rfl (fun _ => ?_) (fun _ => ?_)
  · refine at_iload_n (j := 0) hC rfl rfl dX11_comesTo_38 ?_
    refine at_sipush hC si_9999 dX11_comesTo_39 ?_
    refine at_icmp_le (tgt := 51) hC dX11_comesTo_42 rfl (fun _ => ?_) (fun _ => ?_)
    · refine at_iload_n (j := 0) hC rfl rfl dX11_comesTo_51 ?_
      exact at_iret (F := eqA ad) (ra := rI) hC dX11_comesTo_52 rfl (Nat.le_refl 0) (Nat.le_refl 0) rfl
    · refine at_sipush hC si_9999 dX11_comesTo_45 ?_
      refine at_goto (tgt := 52) hC dX11_comesTo_48 rfl ?_
      exact at_iret (F := eqA ad) (ra := rI) hC dX11_comesTo_52 rfl (Nat.le_refl 0) (Nat.le_refl 0) rfl
  · refine at_iconst hC ic_0 dX11_comesTo_34 ?_
    refine at_goto (tgt := 52) hC dX11_comesTo_35 rfl ?_
    exact at_iret (F := eqA ad) (ra := rI) hC dX11_comesTo_52 rfl (Nat.le_refl 0) (Nat.le_refl 0) rfl
end G
