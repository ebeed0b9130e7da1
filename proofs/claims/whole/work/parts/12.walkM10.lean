section G
variable {z : ZZ} {x : XX} {ad : Nat → Nat} {τ : XS}
theorem dX11_paidBy_0 : decode cX11_paidBy 0 = .ok (.iconst 0, 1) := by decide +kernel
theorem dX11_paidBy_1 : decode cX11_paidBy 1 = .ok (.istore_n 3, 1) := by decide +kernel
theorem dX11_paidBy_2 : decode cX11_paidBy 2 = .ok (.iconst 0, 1) := by decide +kernel
theorem dX11_paidBy_3 : decode cX11_paidBy 3 = .ok (.istore 4, 2) := by decide +kernel
theorem dX11_paidBy_5 : decode cX11_paidBy 5 = .ok (.iload 4, 2) := by decide +kernel
theorem dX11_paidBy_7 : decode cX11_paidBy 7 = .ok (.aload_n 0, 1) := by decide +kernel
theorem dX11_paidBy_8 : decode cX11_paidBy 8 = .ok (.getfield 140, 3) := by decide +kernel
theorem dX11_paidBy_11 : decode cX11_paidBy 11 = .ok (.if_icmp .ge 70, 3) := by decide +kernel
theorem dX11_paidBy_14 : decode cX11_paidBy 14 = .ok (.iload_n 3, 1) := by decide +kernel
theorem dX11_paidBy_15 : decode cX11_paidBy 15 = .ok (.aload_n 0, 1) := by decide +kernel
theorem dX11_paidBy_16 : decode cX11_paidBy 16 = .ok (.getfield 111, 3) := by decide +kernel
theorem dX11_paidBy_19 : decode cX11_paidBy 19 = .ok (.iload 4, 2) := by decide +kernel
theorem dX11_paidBy_21 : decode cX11_paidBy 21 = .ok (.baload, 1) := by decide +kernel
theorem dX11_paidBy_22 : decode cX11_paidBy 22 = .ok (.ifCond .eq 50, 3) := by decide +kernel
theorem dX11_paidBy_25 : decode cX11_paidBy 25 = .ok (.aload_n 0, 1) := by decide +kernel
theorem dX11_paidBy_26 : decode cX11_paidBy 26 = .ok (.getfield 24, 3) := by decide +kernel
theorem dX11_paidBy_29 : decode cX11_paidBy 29 = .ok (.iload 4, 2) := by decide +kernel
theorem dX11_paidBy_31 : decode cX11_paidBy 31 = .ok (.iaload, 1) := by decide +kernel
theorem dX11_paidBy_32 : decode cX11_paidBy 32 = .ok (.bipush 6, 2) := by decide +kernel
theorem dX11_paidBy_34 : decode cX11_paidBy 34 = .ok (.if_icmp .ne 38, 3) := by decide +kernel
theorem dX11_paidBy_37 : decode cX11_paidBy 37 = .ok (.aload_n 0, 1) := by decide +kernel
theorem dX11_paidBy_38 : decode cX11_paidBy 38 = .ok (.getfield 27, 3) := by decide +kernel
theorem dX11_paidBy_41 : decode cX11_paidBy 41 = .ok (.iload 4, 2) := by decide +kernel
theorem dX11_paidBy_43 : decode cX11_paidBy 43 = .ok (.iaload, 1) := by decide +kernel
theorem dX11_paidBy_44 : decode cX11_paidBy 44 = .ok (.iload_n 1, 1) := by decide +kernel
theorem dX11_paidBy_45 : decode cX11_paidBy 45 = .ok (.if_icmp .ne 27, 3) := by decide +kernel
theorem dX11_paidBy_48 : decode cX11_paidBy 48 = .ok (.aload_n 0, 1) := by decide +kernel
theorem dX11_paidBy_49 : decode cX11_paidBy 49 = .ok (.getfield 33, 3) := by decide +kernel
theorem dX11_paidBy_52 : decode cX11_paidBy 52 = .ok (.iload 4, 2) := by decide +kernel
theorem dX11_paidBy_54 : decode cX11_paidBy 54 = .ok (.iaload, 1) := by decide +kernel
theorem dX11_paidBy_55 : decode cX11_paidBy 55 = .ok (.invokestatic 363, 3) := by decide +kernel
theorem dX11_paidBy_58 : decode cX11_paidBy 58 = .ok (.iload_n 2, 1) := by decide +kernel
theorem dX11_paidBy_59 : decode cX11_paidBy 59 = .ok (.if_icmp .ne 13, 3) := by decide +kernel
theorem dX11_paidBy_62 : decode cX11_paidBy 62 = .ok (.aload_n 0, 1) := by decide +kernel
theorem dX11_paidBy_63 : decode cX11_paidBy 63 = .ok (.getfield 30, 3) := by decide +kernel
theorem dX11_paidBy_66 : decode cX11_paidBy 66 = .ok (.iload 4, 2) := by decide +kernel
theorem dX11_paidBy_68 : decode cX11_paidBy 68 = .ok (.iaload, 1) := by decide +kernel
theorem dX11_paidBy_69 : decode cX11_paidBy 69 = .ok (.goto 4, 3) := by decide +kernel
theorem dX11_paidBy_72 : decode cX11_paidBy 72 = .ok (.iconst 0, 1) := by decide +kernel
theorem dX11_paidBy_73 : decode cX11_paidBy 73 = .ok (.iadd, 1) := by decide +kernel
theorem dX11_paidBy_74 : decode cX11_paidBy 74 = .ok (.istore_n 3, 1) := by decide +kernel
theorem dX11_paidBy_75 : decode cX11_paidBy 75 = .ok (.iinc 4 1, 3) := by decide +kernel
theorem dX11_paidBy_78 : decode cX11_paidBy 78 = .ok (.goto (-73), 3) := by decide +kernel
theorem dX11_paidBy_81 : decode cX11_paidBy 81 = .ok (.iload_n 3, 1) := by decide +kernel
theorem dX11_paidBy_82 : decode cX11_paidBy 82 = .ok (.ireturn, 1) := by decide +kernel
set_option maxRecDepth 100000 in
theorem t_M_paidBy_J73 (hC : CX z ad x cX11_paidBy RX11 5 (some .int)) (hR : x.2.2.1 = rmk 2 0 0) (σ : MS) (k_5 : Int32 → Int32 → Int32 → Int32 → Option Int32) (hk_5 : ∀ (a1 : Int32) (a2 : Int32) (a3 : Int32) (a4 : Int32), AT z x 5 (wM z τ) rI (eqA ad) 0 0 0 0 ad 5 [(0, .ref 0), (1, .int a1), (2, .int a2), (3, .int a3), (4, .int a4)] [] σ ((k_5 a1 a2 a3 a4).map fun r => (r, σ))) (a1 : Int32) (a2 : Int32) (a4 : Int32) (s0 : Int32) (s1 : Int32) : AT z x 5 (wM z τ) rI (eqA ad) 0 0 0 0 ad 73 [(0, .ref 0), (1, .int a1), (2, .int a2), (4, .int a4)] [.int s0, .int s1] σ ((M_paidBy_J73 k_5 σ a1 a2 a4 s0 s1).map fun r => (r, σ)) := by
  unfold M_paidBy_J73
  refine at_iadd hC dX11_paidBy_73 ?_
  refine at_istore_n (lv' := [(3, .int (s1 + s0)), (0, .ref 0), (1, .int a1), (2, .int a2), (4, .int a4)]) hC rfl dX11_paidBy_74 (by decide) rfl ?_
  refine at_iinc (j := 4) (v := a4 + 1) (lv' := [(4, .int (a4 + 1)), (3, .int (s1 + s0)), (0, .ref 0), (1, .int a1), (2, .int a2)]) hC dX11_paidBy_75 rfl rfl (by decide) rfl ?_
  refine at_goto (tgt := 5) hC dX11_paidBy_78 rfl ?_
  refine at_drop (lv' := [(0, .ref 0), (1, .int a1), (2, .int a2), (3, .int (s1 + s0)), (4, .int (a4 + 1))]) [2, 3, 4, 1, 0] rfl ?_
  exact hk_5 a1 a2 (s1 + s0) (a4 + 1)
set_option maxRecDepth 100000 in
theorem t_M_paidBy_J72 (hC : CX z ad x cX11_paidBy RX11 5 (some .int)) (hR : x.2.2.1 = rmk 2 0 0) (σ : MS) (k_5 : Int32 → Int32 → Int32 → Int32 → Option Int32) (hk_5 : ∀ (a1 : Int32) (a2 : Int32) (a3 : Int32) (a4 : Int32), AT z x 5 (wM z τ) rI (eqA ad) 0 0 0 0 ad 5 [(0, .ref 0), (1, .int a1), (2, .int a2), (3, .int a3), (4, .int a4)] [] σ ((k_5 a1 a2 a3 a4).map fun r => (r, σ))) (a1 : Int32) (a2 : Int32) (a4 : Int32) (s0 : Int32) : AT z x 5 (wM z τ) rI (eqA ad) 0 0 0 0 ad 72 [(0, .ref 0), (1, .int a1), (2, .int a2), (4, .int a4)] [.int s0] σ ((M_paidBy_J72 k_5 σ a1 a2 a4 s0).map fun r => (r, σ)) := by
  unfold M_paidBy_J72
  refine at_iconst hC ic_0 dX11_paidBy_72 ?_
  exact t_M_paidBy_J73 hC hR σ k_5 hk_5 a1 a2 a4 0 s0
set_option maxRecDepth 100000 in
theorem t_M_paidBy_L5 (hC : CX z ad x cX11_paidBy RX11 5 (some .int)) (hR : x.2.2.1 = rmk 2 0 0) (σ : MS) (n : Nat) (a1 : Int32) (a2 : Int32) (a3 : Int32) (a4 : Int32) : AT z x 5 (wM z τ) rI (eqA ad) 0 0 0 0 ad 5 [(0, .ref 0), (1, .int a1), (2, .int a2), (3, .int a3), (4, .int a4)] [] σ ((M_paidBy_L5 n σ a1 a2 a3 a4).map fun r => (r, σ)) := by
  revert a1 a2 a3 a4
  show ∀ (a1 : Int32) (a2 : Int32) (a3 : Int32) (a4 : Int32), AT z x 5 (wM z τ) rI (eqA ad) 0 0 0 0 ad 5 [(0, .ref 0), (1, .int a1), (2, .int a2), (3, .int a3), (4, .int a4)] [] σ ((M_paidBy_L5_r σ n a1 a2 a3 a4).map fun r => (r, σ))
  induction n with
  | zero => intro a1 a2 a3 a4; exact ap_none
  | succ n hk_5 =>
    intro a1 a2 a3 a4
    unfold M_paidBy_L5_r
    refine at_iload (j := 4) hC rfl dX11_paidBy_5 ?_
    refine at_aload_n (j := 0) hC rfl rfl dX11_paidBy_7 ?_
    refine gf_X11_140 hC dX11_paidBy_8 ?_
    refine ap_icmp_ge (tgt := 81) hC dX11_paidBy_11 rfl (fun _ => ?_) (fun _ => ?_)
    · refine at_iload_n (j := 3) hC rfl rfl dX11_paidBy_81 ?_
      exact at_iret (F := eqA ad) (ra := rI) hC dX11_paidBy_82 rfl (Nat.le_refl 0) (Nat.le_refl 0) rfl
    · refine at_iload_n (j := 3) hC rfl rfl dX11_paidBy_14 ?_
      refine at_aload_n (j := 0) hC rfl rfl dX11_paidBy_15 ?_
      refine gf_X11_111 hC dX11_paidBy_16 ?_
      refine at_iload (j := 4) hC rfl dX11_paidBy_19 ?_
      refine ap_zald hC 32 dX11_paidBy_21 cl_32 (fun v1 => ?_)
      refine ap_if_eq (tgt := 72) hC dX11_paidBy_22 rfl (fun _ => ?_) (fun _ => ?_)
      · refine at_drop (lv' := [(0, .ref 0), (1, .int a1), (2, .int a2), (4, .int a4)]) [0, 1, 2, 4] rfl ?_
        exact t_M_paidBy_J72 hC hR σ (M_paidBy_L5_r σ n) hk_5 a1 a2 a4 a3
      · refine at_aload_n (j := 0) hC rfl rfl dX11_paidBy_25 ?_
        refine gf_X11_24 hC dX11_paidBy_26 ?_
        refine at_iload (j := 4) hC rfl dX11_paidBy_29 ?_
        refine ap_iald hC 5 dX11_paidBy_31 cl_5 (fun v2 => ?_)
        refine at_bipush hC bi_6 dX11_paidBy_32 ?_
        refine ap_icmp_ne (tgt := 72) hC dX11_paidBy_34 rfl (fun _ => ?_) (fun _ => ?_)
        · refine at_drop (lv' := [(0, .ref 0), (1, .int a1), (2, .int a2), (4, .int a4)]) [0, 1, 2, 4] rfl ?_
          exact t_M_paidBy_J72 hC hR σ (M_paidBy_L5_r σ n) hk_5 a1 a2 a4 a3
        · refine at_aload_n (j := 0) hC rfl rfl dX11_paidBy_37 ?_
          refine gf_X11_27 hC dX11_paidBy_38 ?_
          refine at_iload (j := 4) hC rfl dX11_paidBy_41 ?_
          refine ap_iald hC 6 dX11_paidBy_43 cl_6 (fun v3 => ?_)
          refine at_iload_n (j := 1) hC rfl rfl dX11_paidBy_44 ?_
          refine ap_icmp_ne (tgt := 72) hC dX11_paidBy_45 rfl (fun _ => ?_) (fun _ => ?_)
          · refine at_drop (lv' := [(0, .ref 0), (1, .int a1), (2, .int a2), (4, .int a4)]) [0, 1, 2, 4] rfl ?_
            exact t_M_paidBy_J72 hC hR σ (M_paidBy_L5_r σ n) hk_5 a1 a2 a4 a3
          · refine at_aload_n (j := 0) hC rfl rfl dX11_paidBy_48 ?_
            refine gf_X11_33 hC dX11_paidBy_49 ?_
            refine at_iload (j := 4) hC rfl dX11_paidBy_52 ?_
            refine ap_iald hC 8 dX11_paidBy_54 cl_8 (fun v4 => ?_)
            refine ap_callSI hC hR lk_X11_363 (c_M_yearOf σ v4) dX11_paidBy_55 rfl rfl ⟨by decide, by decide⟩ (Nat.le_of_ble_eq_true rfl) ⟨Nat.le_refl 0, Nat.le_refl 0⟩ (fun r5 _ => ?_)
            refine at_iload_n (j := 2) hC rfl rfl dX11_paidBy_58 ?_
            refine ap_icmp_ne (tgt := 72) hC dX11_paidBy_59 rfl (fun _ => ?_) (fun _ => ?_)
            · refine at_drop (lv' := [(0, .ref 0), (1, .int a1), (2, .int a2), (4, .int a4)]) [0, 1, 2, 4] rfl ?_
              exact t_M_paidBy_J72 hC hR σ (M_paidBy_L5_r σ n) hk_5 a1 a2 a4 a3
            · refine at_aload_n (j := 0) hC rfl rfl dX11_paidBy_62 ?_
              refine gf_X11_30 hC dX11_paidBy_63 ?_
              refine at_iload (j := 4) hC rfl dX11_paidBy_66 ?_
              refine ap_iald hC 7 dX11_paidBy_68 cl_7 (fun v6 => ?_)
              refine at_goto (tgt := 73) hC dX11_paidBy_69 rfl ?_
              refine at_drop (lv' := [(0, .ref 0), (1, .int a1), (2, .int a2), (4, .int a4)]) [0, 1, 2, 4] rfl ?_
              exact t_M_paidBy_J73 hC hR σ (M_paidBy_L5_r σ n) hk_5 a1 a2 a4 v6 a3
set_option maxRecDepth 100000 in
theorem c_M_paidBy (σ : MS) (p0 : Int32) (p1 : Int32) : Ct z (wM z τ) rI eqA yX11_paidBy cX11_paidBy 5 (some .int) 2 0 0 [.ref 0, .int p0, .int p1] σ ((M_paidBy σ p0 p1).map fun r => (r, σ)) := by
  refine Ct.of (by decide) (Nat.le_of_ble_eq_true rfl) (fun ad x hC hR _ => ?_)
  show AT z x 5 (wM z τ) rI (eqA ad) 0 0 0 0 ad 0 [(0, .ref 0), (1, .int p0), (2, .int p1)] [] σ ((M_paidBy σ p0 p1).map fun r => (r, σ))
  unfold M_paidBy
  refine at_iconst hC ic_0 dX11_paidBy_0 ?_
  refine at_istore_n (lv' := [(3, .int 0), (0, .ref 0), (1, .int p0), (2, .int p1)]) hC rfl dX11_paidBy_1 (by decide) rfl ?_
  refine at_iconst hC ic_0 dX11_paidBy_2 ?_
  refine at_istore (lv' := [(4, .int 0), (3, .int 0), (0, .ref 0), (1, .int p0), (2, .int p1)]) hC dX11_paidBy_3 (by decide) rfl ?_
  refine at_drop (lv' := [(0, .ref 0), (1, .int p0), (2, .int p1), (3, .int 0), (4, .int 0)]) [2, 3, 4, 1, 0] rfl ?_
  exact t_M_paidBy_L5 hC hR σ 100000 p0 p1 0 0
theorem dX11_arrears_0 : decode cX11_arrears 0 = .ok (.lconst 0, 1) := by decide +kernel
theorem dX11_arrears_1 : decode cX11_arrears 1 = .ok (.lstore_n 3, 1) := by decide +kernel
theorem dX11_arrears_2 : decode cX11_arrears 2 = .ok (.iconst 0, 1) := by decide +kernel
theorem dX11_arrears_3 : decode cX11_arrears 3 = .ok (.istore 5, 2) := by decide +kernel
theorem dX11_arrears_5 : decode cX11_arrears 5 = .ok (.iload 5, 2) := by decide +kernel
theorem dX11_arrears_7 : decode cX11_arrears 7 = .ok (.iload_n 2, 1) := by decide +kernel
theorem dX11_arrears_8 : decode cX11_arrears 8 = .ok (.if_icmp .gt 93, 3) := by decide +kernel
theorem dX11_arrears_11 : decode cX11_arrears 11 = .ok (.lload_n 3, 1) := by decide +kernel
theorem dX11_arrears_12 : decode cX11_arrears 12 = .ok (.aload_n 0, 1) := by decide +kernel
theorem dX11_arrears_13 : decode cX11_arrears 13 = .ok (.iload_n 1, 1) := by decide +kernel
theorem dX11_arrears_14 : decode cX11_arrears 14 = .ok (.bipush 100, 2) := by decide +kernel
theorem dX11_arrears_16 : decode cX11_arrears 16 = .ok (.iload 5, 2) := by decide +kernel
theorem dX11_arrears_18 : decode cX11_arrears 18 = .ok (.imul, 1) := by decide +kernel
theorem dX11_arrears_19 : decode cX11_arrears 19 = .ok (.invokevirtual 366, 3) := by decide +kernel
theorem dX11_arrears_22 : decode cX11_arrears 22 = .ok (.aload_n 0, 1) := by decide +kernel
theorem dX11_arrears_23 : decode cX11_arrears 23 = .ok (.iload_n 1, 1) := by decide +kernel
theorem dX11_arrears_24 : decode cX11_arrears 24 = .ok (.iload 5, 2) := by decide +kernel
theorem dX11_arrears_26 : decode cX11_arrears 26 = .ok (.invokevirtual 369, 3) := by decide +kernel
theorem dX11_arrears_29 : decode cX11_arrears 29 = .ok (.iadd, 1) := by decide +kernel
theorem dX11_arrears_30 : decode cX11_arrears 30 = .ok (.aload_n 0, 1) := by decide +kernel
theorem dX11_arrears_31 : decode cX11_arrears 31 = .ok (.iload_n 1, 1) := by decide +kernel
theorem dX11_arrears_32 : decode cX11_arrears 32 = .ok (.iload 5, 2) := by decide +kernel
theorem dX11_arrears_34 : decode cX11_arrears 34 = .ok (.invokevirtual 372, 3) := by decide +kernel
theorem dX11_arrears_37 : decode cX11_arrears 37 = .ok (.isub, 1) := by decide +kernel
theorem dX11_arrears_38 : decode cX11_arrears 38 = .ok (.i2l, 1) := by decide +kernel
theorem dX11_arrears_39 : decode cX11_arrears 39 = .ok (.ladd, 1) := by decide +kernel
theorem dX11_arrears_40 : decode cX11_arrears 40 = .ok (.lstore_n 3, 1) := by decide +kernel
theorem dX11_arrears_41 : decode cX11_arrears 41 = .ok (.lload_n 3, 1) := by decide +kernel
theorem dX11_arrears_42 : decode cX11_arrears 42 = .ok (.lconst 0, 1) := by decide +kernel
theorem dX11_arrears_43 : decode cX11_arrears 43 = .ok (.lcmp, 1) := by decide +kernel
theorem dX11_arrears_44 : decode cX11_arrears 44 = .ok (.ifCond .le 51, 3) := by decide +kernel
theorem dX11_arrears_47 : decode cX11_arrears 47 = .ok (.lload_n 3, 1) := by decide +kernel
theorem dX11_arrears_48 : decode cX11_arrears 48 = .ok (.lload_n 3, 1) := by decide +kernel
theorem dX11_arrears_49 : decode cX11_arrears 49 = .ok (.aload_n 0, 1) := by decide +kernel
theorem dX11_arrears_50 : decode cX11_arrears 50 = .ok (.iconst 5, 1) := by decide +kernel
theorem dX11_arrears_51 : decode cX11_arrears 51 = .ok (.iload_n 1, 1) := by decide +kernel
theorem dX11_arrears_52 : decode cX11_arrears 52 = .ok (.bipush 100, 2) := by decide +kernel
theorem dX11_arrears_54 : decode cX11_arrears 54 = .ok (.iload 5, 2) := by decide +kernel
theorem dX11_arrears_56 : decode cX11_arrears 56 = .ok (.imul, 1) := by decide +kernel
theorem dX11_arrears_57 : decode cX11_arrears 57 = .ok (.bipush 99, 2) := by decide +kernel
theorem dX11_arrears_59 : decode cX11_arrears 59 = .ok (.iadd, 1) := by decide +kernel
theorem dX11_arrears_60 : decode cX11_arrears 60 = .ok (.bipush 100, 2) := by decide +kernel
theorem dX11_arrears_62 : decode cX11_arrears 62 = .ok (.iload 5, 2) := by decide +kernel
theorem dX11_arrears_64 : decode cX11_arrears 64 = .ok (.imul, 1) := by decide +kernel
theorem dX11_arrears_65 : decode cX11_arrears 65 = .ok (.bipush 99, 2) := by decide +kernel
theorem dX11_arrears_67 : decode cX11_arrears 67 = .ok (.iadd, 1) := by decide +kernel
theorem dX11_arrears_68 : decode cX11_arrears 68 = .ok (.invokevirtual 193, 3) := by decide +kernel
theorem dX11_arrears_71 : decode cX11_arrears 71 = .ok (.i2l, 1) := by decide +kernel
theorem dX11_arrears_72 : decode cX11_arrears 72 = .ok (.lmul, 1) := by decide +kernel
theorem dX11_arrears_73 : decode cX11_arrears 73 = .ok (.ldc2_w 375, 3) := by decide +kernel
theorem dX11_arrears_76 : decode cX11_arrears 76 = .ok (.ldiv, 1) := by decide +kernel
theorem dX11_arrears_77 : decode cX11_arrears 77 = .ok (.ladd, 1) := by decide +kernel
theorem dX11_arrears_78 : decode cX11_arrears 78 = .ok (.lstore_n 3, 1) := by decide +kernel
theorem dX11_arrears_79 : decode cX11_arrears 79 = .ok (.lload_n 3, 1) := by decide +kernel
theorem dX11_arrears_80 : decode cX11_arrears 80 = .ok (.ldc2_w 377, 3) := by decide +kernel
theorem dX11_arrears_83 : decode cX11_arrears 83 = .ok (.lcmp, 1) := by decide +kernel
theorem dX11_arrears_84 : decode cX11_arrears 84 = .ok (.ifCond .ge 7, 3) := by decide +kernel
theorem dX11_arrears_87 : decode cX11_arrears 87 = .ok (.lload_n 3, 1) := by decide +kernel
theorem dX11_arrears_88 : decode cX11_arrears 88 = .ok (.goto 6, 3) := by decide +kernel
theorem dX11_arrears_91 : decode cX11_arrears 91 = .ok (.ldc2_w 377, 3) := by decide +kernel
theorem dX11_arrears_94 : decode cX11_arrears 94 = .ok (.lstore_n 3, 1) := by decide +kernel
theorem dX11_arrears_95 : decode cX11_arrears 95 = .ok (.iinc 5 1, 3) := by decide +kernel
theorem dX11_arrears_98 : decode cX11_arrears 98 = .ok (.goto (-93), 3) := by decide +kernel
theorem dX11_arrears_101 : decode cX11_arrears 101 = .ok (.lload_n 3, 1) := by decide +kernel
theorem dX11_arrears_102 : decode cX11_arrears 102 = .ok (.lreturn, 1) := by decide +kernel
set_option maxRecDepth 100000 in
theorem t_M_arrears_J95 (hC : CX z ad x cX11_arrears RX11 6 (some .long)) (hR : x.2.2.1 = rmk 619 0 0) (k_5 : MS → Int32 → Int32 → Int64 → Int32 → Option (Int64 × MS)) (hk_5 : ∀ (σ : MS) (a1 : Int32) (a2 : Int32) (a3 : Int64) (a5 : Int32), AT z x 6 (wM z τ) rJ (eqA ad) 0 0 0 0 ad 5 [(0, .ref 0), (1, .int a1), (2, .int a2), (3, .long a3), (5, .int a5)] [] σ (k_5 σ a1 a2 a3 a5)) (σ : MS) (a1 : Int32) (a2 : Int32) (a3 : Int64) (a5 : Int32) : AT z x 6 (wM z τ) rJ (eqA ad) 0 0 0 0 ad 95 [(0, .ref 0), (1, .int a1), (2, .int a2), (3, .long a3), (5, .int a5)] [] σ (M_arrears_J95 k_5 σ a1 a2 a3 a5) := by
  unfold M_arrears_J95
  refine at_iinc (j := 4) (v := a5 + 1) (lv' := [(5, .int (a5 + 1)), (0, .ref 0), (1, .int a1), (2, .int a2), (3, .long a3)]) hC dX11_arrears_95 rfl rfl (by decide) rfl ?_
  refine at_goto (tgt := 5) hC dX11_arrears_98 rfl ?_
  refine at_drop (lv' := [(0, .ref 0), (1, .int a1), (2, .int a2), (3, .long a3), (5, .int (a5 + 1))]) [1, 2, 3, 4, 0] rfl ?_
  exact hk_5 σ a1 a2 a3 (a5 + 1)
set_option maxRecDepth 100000 in
theorem t_M_arrears_J94 (hC : CX z ad x cX11_arrears RX11 6 (some .long)) (hR : x.2.2.1 = rmk 619 0 0) (k_5 : MS → Int32 → Int32 → Int64 → Int32 → Option (Int64 × MS)) (hk_5 : ∀ (σ : MS) (a1 : Int32) (a2 : Int32) (a3 : Int64) (a5 : Int32), AT z x 6 (wM z τ) rJ (eqA ad) 0 0 0 0 ad 5 [(0, .ref 0), (1, .int a1), (2, .int a2), (3, .long a3), (5, .int a5)] [] σ (k_5 σ a1 a2 a3 a5)) (σ : MS) (a1 : Int32) (a2 : Int32) (a5 : Int32) (s0 : Int64) : AT z x 6 (wM z τ) rJ (eqA ad) 0 0 0 0 ad 94 [(0, .ref 0), (1, .int a1), (2, .int a2), (5, .int a5)] [.long s0] σ (M_arrears_J94 k_5 σ a1 a2 a5 s0) := by
  unfold M_arrears_J94
  refine at_lstore_n (lv' := [(3, .long s0), (0, .ref 0), (1, .int a1), (2, .int a2), (5, .int a5)]) hC rfl dX11_arrears_94 (by decide) rfl ?_
  refine at_drop (lv' := [(0, .ref 0), (1, .int a1), (2, .int a2), (3, .long s0), (5, .int a5)]) [1, 2, 3, 0, 4] rfl ?_
  exact t_M_arrears_J95 hC hR k_5 hk_5 σ a1 a2 s0 a5
set_option maxRecDepth 100000 in
theorem t_M_arrears_L5 (hC : CX z ad x cX11_arrears RX11 6 (some .long)) (hR : x.2.2.1 = rmk 619 0 0) (n : Nat) (σ : MS) (a1 : Int32) (a2 : Int32) (a3 : Int64) (a5 : Int32) : AT z x 6 (wM z τ) rJ (eqA ad) 0 0 0 0 ad 5 [(0, .ref 0), (1, .int a1), (2, .int a2), (3, .long a3), (5, .int a5)] [] σ (M_arrears_L5 n σ a1 a2 a3 a5) := by
  revert σ a1 a2 a3 a5
  show ∀ (σ : MS) (a1 : Int32) (a2 : Int32) (a3 : Int64) (a5 : Int32), AT z x 6 (wM z τ) rJ (eqA ad) 0 0 0 0 ad 5 [(0, .ref 0), (1, .int a1), (2, .int a2), (3, .long a3), (5, .int a5)] [] σ (M_arrears_L5_r n σ a1 a2 a3 a5)
  induction n with
  | zero => intro σ a1 a2 a3 a5; exact at_none
  | succ n hk_5 =>
    intro σ a1 a2 a3 a5
    unfold M_arrears_L5_r
    refine at_iload (j := 4) hC rfl dX11_arrears_5 ?_
    refine at_iload_n (j := 2) hC rfl rfl dX11_arrears_7 ?_
    refine at_icmp_gt (tgt := 101) hC dX11_arrears_8 rfl (fun _ => ?_) (fun _ => ?_)
    · refine at_lload_n (j := 3) hC rfl rfl dX11_arrears_101 ?_
      exact at_lret (F := eqA ad) (ra := rJ) hC dX11_arrears_102 rfl (Nat.le_refl 0) (Nat.le_refl 0) rfl
    · refine at_lload_n (j := 3) hC rfl rfl dX11_arrears_11 ?_
      refine at_aload_n (j := 0) hC rfl rfl dX11_arrears_12 ?_
      refine at_iload_n (j := 1) hC rfl rfl dX11_arrears_13 ?_
      refine at_bipush hC bi_100 dX11_arrears_14 ?_
      refine at_iload (j := 4) hC rfl dX11_arrears_16 ?_
      refine at_imul hC dX11_arrears_18 ?_
      refine at_callVI hC hR lk_X11_366 (c_M_dueOf σ a1 (100 * a5)) dX11_arrears_19 recX11 rfl rfl ⟨by decide, by decide⟩ (Nat.le_of_ble_eq_true rfl) ⟨Nat.le_refl 0, Nat.le_refl 0⟩ (fun r1 r1s _ => ?_)
      refine at_aload_n (j := 0) hC rfl rfl dX11_arrears_22 ?_
      refine at_iload_n (j := 1) hC rfl rfl dX11_arrears_23 ?_
      refine at_iload (j := 4) hC rfl dX11_arrears_24 ?_
      refine at_callVI hC hR lk_X11_369 (c_M_taxOf r1s a1 a5) dX11_arrears_26 recX11 rfl rfl ⟨by decide, by decide⟩ (Nat.le_of_ble_eq_true rfl) ⟨Nat.le_refl 0, Nat.le_refl 0⟩ (fun r2 r2s _ => ?_)
      refine at_iadd hC dX11_arrears_29 ?_
      refine at_aload_n (j := 0) hC rfl rfl dX11_arrears_30 ?_
      refine at_iload_n (j := 1) hC rfl rfl dX11_arrears_31 ?_
      refine at_iload (j := 4) hC rfl dX11_arrears_32 ?_
      refine at_callVpI hC hR lk_X11_372 (c_M_paidBy r2s a1 a5) dX11_arrears_34 recX11 rfl rfl ⟨by decide, by decide⟩ (Nat.le_of_ble_eq_true rfl) ⟨Nat.le_refl 0, Nat.le_refl 0⟩ (fun r3 _ => ?_)
      refine at_isub hC dX11_arrears_37 ?_
      refine at_i2l hC dX11_arrears_38 ?_
      refine at_ladd hC dX11_arrears_39 ?_
      refine at_lstore_n (lv' := [(3, .long (a3 + (((r1 + r2) - r3).toInt64))), (0, .ref 0), (1, .int a1), (2, .int a2), (5, .int a5)]) hC rfl dX11_arrears_40 (by decide) rfl ?_
      refine at_lload_n (j := 0) hC rfl rfl dX11_arrears_41 ?_
      refine at_lconst hC lc_0 dX11_arrears_42 ?_
      refine at_lcmp hC dX11_arrears_43 ?_
      refine at_if_le (tgt := 95) hC dX11_arrears_44 rfl (fun _ => ?_) (fun _ => ?_)
      · refine at_drop (lv' := [(0, .ref 0), (1, .int a1), (2, .int a2), (3, .long (a3 + (((r1 + r2) - r3).toInt64))), (5, .int a5)]) [1, 2, 3, 0, 4] rfl ?_
        exact t_M_arrears_J95 hC hR (M_arrears_L5_r n) hk_5 r2s a1 a2 (a3 + (((r1 + r2) - r3).toInt64)) a5
      · refine at_lload_n (j := 0) hC rfl rfl dX11_arrears_47 ?_
        refine at_lload_n (j := 0) hC rfl rfl dX11_arrears_48 ?_
        refine at_aload_n (j := 1) hC rfl rfl dX11_arrears_49 ?_
        refine at_iconst hC ic_5 dX11_arrears_50 ?_
        refine at_iload_n (j := 2) hC rfl rfl dX11_arrears_51 ?_
        refine at_bipush hC bi_100 dX11_arrears_52 ?_
        refine at_iload (j := 4) hC rfl dX11_arrears_54 ?_
        refine at_imul hC dX11_arrears_56 ?_
        refine at_bipush hC bi_99 dX11_arrears_57 ?_
        refine at_iadd hC dX11_arrears_59 ?_
        refine at_bipush hC bi_100 dX11_arrears_60 ?_
        refine at_iload (j := 4) hC rfl dX11_arrears_62 ?_
        refine at_imul hC dX11_arrears_64 ?_
        refine at_bipush hC bi_99 dX11_arrears_65 ?_
        refine at_iadd hC dX11_arrears_67 ?_
        refine at_callVI hC hR lk_X11_193 (c_M_ruled r2s 5 a1 ((100 * a5) + 99) ((100 * a5) + 99)) dX11_arrears_68 recX11 rfl rfl ⟨by decide, by decide⟩ (Nat.le_of_ble_eq_true rfl) ⟨Nat.le_refl 0, Nat.le_refl 0⟩ (fun r4 r4s _ => ?_)
        refine at_i2l hC dX11_arrears_71 ?_
        refine at_lmul hC dX11_arrears_72 ?_
        refine at_ldc2 hC kl_X11_375 dX11_arrears_73 ?_
        refine at_ldiv hC (by decide) dX11_arrears_76 ?_
        refine at_ladd hC dX11_arrears_77 ?_
        refine at_lstore_n (lv' := [(3, .long ((a3 + (((r1 + r2) - r3).toInt64)) + (((a3 + (((r1 + r2) - r3).toInt64)) * r4.toInt64) / 100))), (0, .ref 0), (1, .int a1), (2, .int a2), (5, .int a5)]) hC rfl dX11_arrears_78 (by decide) rfl ?_
        refine at_lload_n (j := 0) hC rfl rfl dX11_arrears_79 ?_
        refine at_ldc2 hC kl_X11_377 dX11_arrears_80 ?_
        refine at_lcmp hC dX11_arrears_83 ?_
        refine at_if_ge (tgt := 91) hC dX11_arrears_84 rfl (fun _ => ?_) (fun _ => ?_)
        · refine at_ldc2 hC kl_X11_377 dX11_arrears_91 ?_
          refine at_drop (lv' := [(0, .ref 0), (1, .int a1), (2, .int a2), (5, .int a5)]) [1, 2, 3, 4] rfl ?_
          exact t_M_arrears_J94 hC hR (M_arrears_L5_r n) hk_5 r4s a1 a2 a5 1000000000000
        · refine at_lload_n (j := 0) hC rfl rfl dX11_arrears_87 ?_
          refine at_goto (tgt := 94) hC dX11_arrears_88 rfl ?_
          refine at_drop (lv' := [(0, .ref 0), (1, .int a1), (2, .int a2), (5, .int a5)]) [1, 2, 3, 4] rfl ?_
          exact t_M_arrears_J94 hC hR (M_arrears_L5_r n) hk_5 r4s a1 a2 a5 ((a3 + (((r1 + r2) - r3).toInt64)) + (((a3 + (((r1 + r2) - r3).toInt64)) * r4.toInt64) / 100))
set_option maxRecDepth 100000 in
theorem c_M_arrears (σ : MS) (p0 : Int32) (p1 : Int32) : Ct z (wM z τ) rJ eqA yX11_arrears cX11_arrears 6 (some .long) 619 0 0 [.ref 0, .int p0, .int p1] σ (M_arrears σ p0 p1) := by
  refine Ct.of (by decide) (Nat.le_of_ble_eq_true rfl) (fun ad x hC hR _ => ?_)
  show AT z x 6 (wM z τ) rJ (eqA ad) 0 0 0 0 ad 0 [(0, .ref 0), (1, .int p0), (2, .int p1)] [] σ (M_arrears σ p0 p1)
  unfold M_arrears
  refine at_lconst hC lc_0 dX11_arrears_0 ?_
  refine at_lstore_n (lv' := [(3, .long 0), (0, .ref 0), (1, .int p0), (2, .int p1)]) hC rfl dX11_arrears_1 (by decide) rfl ?_
  refine at_iconst hC ic_0 dX11_arrears_2 ?_
  refine at_istore (lv' := [(5, .int 0), (3, .long 0), (0, .ref 0), (1, .int p0), (2, .int p1)]) hC dX11_arrears_3 (by decide) rfl ?_
  refine at_drop (lv' := [(0, .ref 0), (1, .int p0), (2, .int p1), (3, .long 0), (5, .int 0)]) [2, 3, 4, 1, 0] rfl ?_
  exact t_M_arrears_L5 hC hR 100000 σ p0 p1 0 0
theorem dX11_owe_0 : decode cX11_owe 0 = .ok (.aload_n 0, 1) := by decide +kernel
theorem dX11_owe_1 : decode cX11_owe 1 = .ok (.iload_n 1, 1) := by decide +kernel
theorem dX11_owe_2 : decode cX11_owe 2 = .ok (.invokevirtual 174, 3) := by decide +kernel
theorem dX11_owe_5 : decode cX11_owe 5 = .ok (.ifCond .eq 28, 3) := by decide +kernel
theorem dX11_owe_8 : decode cX11_owe 8 = .ok (.iload_n 2, 1) := by decide +kernel
theorem dX11_owe_9 : decode cX11_owe 9 = .ok (.invokestatic 379, 3) := by decide +kernel
theorem dX11_owe_12 : decode cX11_owe 12 = .ok (.ifCond .eq 21, 3) := by decide +kernel
theorem dX11_owe_15 : decode cX11_owe 15 = .ok (.aload_n 0, 1) := by decide +kernel
theorem dX11_owe_16 : decode cX11_owe 16 = .ok (.iload_n 3, 1) := by decide +kernel
theorem dX11_owe_17 : decode cX11_owe 17 = .ok (.invokevirtual 212, 3) := by decide +kernel
theorem dX11_owe_20 : decode cX11_owe 20 = .ok (.ifCond .eq 13, 3) := by decide +kernel
theorem dX11_owe_23 : decode cX11_owe 23 = .ok (.iload 4, 2) := by decide +kernel
theorem dX11_owe_25 : decode cX11_owe 25 = .ok (.iconst 0, 1) := by decide +kernel
theorem dX11_owe_26 : decode cX11_owe 26 = .ok (.iconst 3, 1) := by decide +kernel
theorem dX11_owe_27 : decode cX11_owe 27 = .ok (.invokestatic 129, 3) := by decide +kernel
theorem dX11_owe_30 : decode cX11_owe 30 = .ok (.ifCond .ne 7, 3) := by decide +kernel
theorem dX11_owe_33 : decode cX11_owe 33 = .ok (.ldc2_w 382, 3) := by decide +kernel
theorem dX11_owe_36 : decode cX11_owe 36 = .ok (.lreturn, 1) := by decide +kernel
theorem dX11_owe_37 : decode cX11_owe 37 = .ok (.aload_n 0, 1) := by decide +kernel
theorem dX11_owe_38 : decode cX11_owe 38 = .ok (.iload_n 3, 1) := by decide +kernel
theorem dX11_owe_39 : decode cX11_owe 39 = .ok (.invokevirtual 143, 3) := by decide +kernel
theorem dX11_owe_42 : decode cX11_owe 42 = .ok (.iload 4, 2) := by decide +kernel
theorem dX11_owe_44 : decode cX11_owe 44 = .ok (.ifCond .ne 16, 3) := by decide +kernel
theorem dX11_owe_47 : decode cX11_owe 47 = .ok (.aload_n 0, 1) := by decide +kernel
theorem dX11_owe_48 : decode cX11_owe 48 = .ok (.iload_n 1, 1) := by decide +kernel
theorem dX11_owe_49 : decode cX11_owe 49 = .ok (.bipush 100, 2) := by decide +kernel
theorem dX11_owe_51 : decode cX11_owe 51 = .ok (.iload_n 2, 1) := by decide +kernel
theorem dX11_owe_52 : decode cX11_owe 52 = .ok (.imul, 1) := by decide +kernel
theorem dX11_owe_53 : decode cX11_owe 53 = .ok (.invokevirtual 366, 3) := by decide +kernel
theorem dX11_owe_56 : decode cX11_owe 56 = .ok (.i2l, 1) := by decide +kernel
theorem dX11_owe_57 : decode cX11_owe 57 = .ok (.goto 41, 3) := by decide +kernel
theorem dX11_owe_60 : decode cX11_owe 60 = .ok (.iload 4, 2) := by decide +kernel
theorem dX11_owe_62 : decode cX11_owe 62 = .ok (.iconst 1, 1) := by decide +kernel
theorem dX11_owe_63 : decode cX11_owe 63 = .ok (.if_icmp .ne 13, 3) := by decide +kernel
theorem dX11_owe_66 : decode cX11_owe 66 = .ok (.aload_n 0, 1) := by decide +kernel
theorem dX11_owe_67 : decode cX11_owe 67 = .ok (.iload_n 1, 1) := by decide +kernel
theorem dX11_owe_68 : decode cX11_owe 68 = .ok (.iload_n 2, 1) := by decide +kernel
theorem dX11_owe_69 : decode cX11_owe 69 = .ok (.invokevirtual 369, 3) := by decide +kernel
theorem dX11_owe_72 : decode cX11_owe 72 = .ok (.i2l, 1) := by decide +kernel
theorem dX11_owe_73 : decode cX11_owe 73 = .ok (.goto 25, 3) := by decide +kernel
theorem dX11_owe_76 : decode cX11_owe 76 = .ok (.iload 4, 2) := by decide +kernel
theorem dX11_owe_78 : decode cX11_owe 78 = .ok (.iconst 2, 1) := by decide +kernel
theorem dX11_owe_79 : decode cX11_owe 79 = .ok (.if_icmp .ne 12, 3) := by decide +kernel
theorem dX11_owe_82 : decode cX11_owe 82 = .ok (.aload_n 0, 1) := by decide +kernel
theorem dX11_owe_83 : decode cX11_owe 83 = .ok (.iload_n 1, 1) := by decide +kernel
theorem dX11_owe_84 : decode cX11_owe 84 = .ok (.iload_n 2, 1) := by decide +kernel
theorem dX11_owe_85 : decode cX11_owe 85 = .ok (.invokevirtual 384, 3) := by decide +kernel
theorem dX11_owe_88 : decode cX11_owe 88 = .ok (.goto 10, 3) := by decide +kernel
theorem dX11_owe_91 : decode cX11_owe 91 = .ok (.aload_n 0, 1) := by decide +kernel
theorem dX11_owe_92 : decode cX11_owe 92 = .ok (.iload_n 1, 1) := by decide +kernel
theorem dX11_owe_93 : decode cX11_owe 93 = .ok (.iload_n 2, 1) := by decide +kernel
theorem dX11_owe_94 : decode cX11_owe 94 = .ok (.invokevirtual 372, 3) := by decide +kernel
theorem dX11_owe_97 : decode cX11_owe 97 = .ok (.i2l, 1) := by decide +kernel
theorem dX11_owe_98 : decode cX11_owe 98 = .ok (.lreturn, 1) := by decide +kernel
set_option maxRecDepth 100000 in
theorem c_M_owe (σ : MS) (p0 : Int32) (p1 : Int32) (p2 : Int32) (p3 : Int32) : Ct z (wM z τ) rJ eqA yX11_owe cX11_owe 5 (some .long) 620 0 0 [.ref 0, .int p0, .int p1, .int p2, .int p3] σ (M_owe σ p0 p1 p2 p3) := by
  refine Ct.of (by decide) (Nat.le_of_ble_eq_true rfl) (fun ad x hC hR _ => ?_)
  show AT z x 5 (wM z τ) rJ (eqA ad) 0 0 0 0 ad 0 [(0, .ref 0), (1, .int p0), (2, .int p1), (3, .int p2), (4, .int p3)] [] σ (M_owe σ p0 p1 p2 p3)
  unfold M_owe
  refine at_aload_n (j := 0) hC rfl rfl dX11_owe_0 ?_
  refine at_iload_n (j := 1) hC rfl rfl dX11_owe_1 ?_
  refine at_callVpI hC hR lk_X11_174 (c_M_isMan σ p0) dX11_owe_2 recX11 rfl rfl ⟨by decide, by decide⟩ (Nat.le_of_ble_eq_true rfl) ⟨Nat.le_refl 0, Nat.le_refl 0⟩ (fun r1 _ => ?_)
  refine at_if_eq (tgt := 33) hC dX11_owe_5 rfl (fun _ => ?_) (fun _ => ?_)
  · refine at_ldc2 hC kl_X11_382 dX11_owe_33 ?_
    exact at_lret (F := eqA ad) (ra := rJ) hC dX11_owe_36 rfl (Nat.le_refl 0) (Nat.le_refl 0) rfl
  · refine at_iload_n (j := 2) hC rfl rfl dX11_owe_8 ?_
    refine at_callSpI hC hR lk_X11_379 (c_M_isYear σ p1) dX11_owe_9 rfl rfl ⟨by decide, by decide⟩ (Nat.le_of_ble_eq_true rfl) ⟨Nat.le_refl 0, Nat.le_refl 0⟩ (fun r2 _ => ?_)
    refine at_if_eq (tgt := 33) hC dX11_owe_12 rfl (fun _ => ?_) (fun _ => ?_)
    · refine at_ldc2 hC kl_X11_382 dX11_owe_33 ?_
      exact at_lret (F := eqA ad) (ra := rJ) hC dX11_owe_36 rfl (Nat.le_refl 0) (Nat.le_refl 0) rfl
    · refine at_aload_n (j := 0) hC rfl rfl dX11_owe_15 ?_
      refine at_iload_n (j := 3) hC rfl rfl dX11_owe_16 ?_
      refine at_callVpI hC hR lk_X11_212 (c_M_isBy σ p2) dX11_owe_17 recX11 rfl rfl ⟨by decide, by decide⟩ (Nat.le_of_ble_eq_true rfl) ⟨Nat.le_refl 0, Nat.le_refl 0⟩ (fun r3 _ => ?_)
      refine at_if_eq (tgt := 33) hC dX11_owe_20 rfl (fun _ => ?_) (fun _ => ?_)
      · refine at_ldc2 hC kl_X11_382 dX11_owe_33 ?_
        exact at_lret (F := eqA ad) (ra := rJ) hC dX11_owe_36 rfl (Nat.le_refl 0) (Nat.le_refl 0) rfl
      · refine at_iload (j := 4) hC rfl dX11_owe_23 ?_
        refine at_iconst hC ic_0 dX11_owe_25 ?_
        refine at_iconst hC ic_3 dX11_owe_26 ?_
        refine at_callSpI hC hR lk_X11_129 (c_M_in σ p3 0 3) dX11_owe_27 rfl rfl ⟨by decide, by decide⟩ (Nat.le_of_ble_eq_true rfl) ⟨Nat.le_refl 0, Nat.le_refl 0⟩ (fun r4 _ => ?_)
        refine at_if_ne (tgt := 37) hC dX11_owe_30 rfl (fun _ => ?_) (fun _ => ?_)
        · refine at_aload_n (j := 0) hC rfl rfl dX11_owe_37 ?_
          refine at_iload_n (j := 3) hC rfl rfl dX11_owe_38 ?_
          refine at_callVU hC hR lk_X11_143 (c_M_looks σ p2) dX11_owe_39 recX11 rfl rfl ⟨by decide, by decide⟩ (Nat.le_of_ble_eq_true rfl) ⟨Nat.le_refl 0, Nat.le_refl 0⟩ (fun r5 r5s _ => ?_)
          refine at_iload (j := 4) hC rfl dX11_owe_42 ?_
          refine at_if_ne (tgt := 60) hC dX11_owe_44 rfl (fun _ => ?_) (fun _ => ?_)
          · refine at_iload (j := 4) hC rfl dX11_owe_60 ?_
            refine at_iconst hC ic_1 dX11_owe_62 ?_
            refine at_icmp_ne (tgt := 76) hC dX11_owe_63 rfl (fun _ => ?_) (fun _ => ?_)
            · refine at_iload (j := 4) hC rfl dX11_owe_76 ?_
              refine at_iconst hC ic_2 dX11_owe_78 ?_
              refine at_icmp_ne (tgt := 91) hC dX11_owe_79 rfl (fun _ => ?_) (fun _ => ?_)
              · refine at_aload_n (j := 0) hC rfl rfl dX11_owe_91 ?_
                refine at_iload_n (j := 1) hC rfl rfl dX11_owe_92 ?_
                refine at_iload_n (j := 2) hC rfl rfl dX11_owe_93 ?_
                refine at_callVpI hC hR lk_X11_372 (c_M_paidBy r5s p0 p1) dX11_owe_94 recX11 rfl rfl ⟨by decide, by decide⟩ (Nat.le_of_ble_eq_true rfl) ⟨Nat.le_refl 0, Nat.le_refl 0⟩ (fun r6 _ => ?_)
                refine at_i2l hC dX11_owe_97 ?_
                exact at_lret (F := eqA ad) (ra := rJ) hC dX11_owe_98 rfl (Nat.le_refl 0) (Nat.le_refl 0) rfl
              · refine at_aload_n (j := 0) hC rfl rfl dX11_owe_82 ?_
                refine at_iload_n (j := 1) hC rfl rfl dX11_owe_83 ?_
                refine at_iload_n (j := 2) hC rfl rfl dX11_owe_84 ?_
                refine at_callVJ hC hR lk_X11_384 (c_M_arrears r5s p0 p1) dX11_owe_85 recX11 rfl rfl ⟨by decide, by decide⟩ (Nat.le_of_ble_eq_true rfl) ⟨Nat.le_refl 0, Nat.le_refl 0⟩ (fun r7 r7s _ => ?_)
                refine at_goto (tgt := 98) hC dX11_owe_88 rfl ?_
                exact at_lret (F := eqA ad) (ra := rJ) hC dX11_owe_98 rfl (Nat.le_refl 0) (Nat.le_refl 0) rfl
            · refine at_aload_n (j := 0) hC rfl rfl dX11_owe_66 ?_
              refine at_iload_n (j := 1) hC rfl rfl dX11_owe_67 ?_
              refine at_iload_n (j := 2) hC rfl rfl dX11_owe_68 ?_
              refine at_callVI hC hR lk_X11_369 (c_M_taxOf r5s p0 p1) dX11_owe_69 recX11 rfl rfl ⟨by decide, by decide⟩ (Nat.le_of_ble_eq_true rfl) ⟨Nat.le_refl 0, Nat.le_refl 0⟩ (fun r8 r8s _ => ?_)
              refine at_i2l hC dX11_owe_72 ?_
              refine at_goto (tgt := 98) hC dX11_owe_73 rfl ?_
              exact at_lret (F := eqA ad) (ra := rJ) hC dX11_owe_98 rfl (Nat.le_refl 0) (Nat.le_refl 0) rfl
          · refine at_aload_n (j := 0) hC rfl rfl dX11_owe_47 ?_
            refine at_iload_n (j := 1) hC rfl rfl dX11_owe_48 ?_
            refine at_bipush hC bi_100 dX11_owe_49 ?_
            refine at_iload_n (j := 2) hC rfl rfl dX11_owe_51 ?_
            refine at_imul hC dX11_owe_52 ?_
            refine at_callVI hC hR lk_X11_366 (c_M_dueOf r5s p0 (100 * p1)) dX11_owe_53 recX11 rfl rfl ⟨by decide, by decide⟩ (Nat.le_of_ble_eq_true rfl) ⟨Nat.le_refl 0, Nat.le_refl 0⟩ (fun r9 r9s _ => ?_)
            refine at_i2l hC dX11_owe_56 ?_
            refine at_goto (tgt := 98) hC dX11_owe_57 rfl ?_
            exact at_lret (F := eqA ad) (ra := rJ) hC dX11_owe_98 rfl (Nat.le_refl 0) (Nat.le_refl 0) rfl
        · refine at_ldc2 hC kl_X11_382 dX11_owe_33 ?_
          exact at_lret (F := eqA ad) (ra := rJ) hC dX11_owe_36 rfl (Nat.le_refl 0) (Nat.le_refl 0) rfl
theorem dX11_vacantOf_0 : decode cX11_vacantOf 0 = .ok (.iconst 0, 1) := by decide +kernel
theorem dX11_vacantOf_1 : decode cX11_vacantOf 1 = .ok (.istore_n 2, 1) := by decide +kernel
theorem dX11_vacantOf_2 : decode cX11_vacantOf 2 = .ok (.iconst 0, 1) := by decide +kernel
theorem dX11_vacantOf_3 : decode cX11_vacantOf 3 = .ok (.istore_n 3, 1) := by decide +kernel
theorem dX11_vacantOf_4 : decode cX11_vacantOf 4 = .ok (.iload_n 3, 1) := by decide +kernel
theorem dX11_vacantOf_5 : decode cX11_vacantOf 5 = .ok (.aload_n 0, 1) := by decide +kernel
theorem dX11_vacantOf_6 : decode cX11_vacantOf 6 = .ok (.getfield 171, 3) := by decide +kernel
theorem dX11_vacantOf_9 : decode cX11_vacantOf 9 = .ok (.if_icmp .ge 29, 3) := by decide +kernel
theorem dX11_vacantOf_12 : decode cX11_vacantOf 12 = .ok (.iload_n 2, 1) := by decide +kernel
theorem dX11_vacantOf_13 : decode cX11_vacantOf 13 = .ok (.aload_n 0, 1) := by decide +kernel
theorem dX11_vacantOf_14 : decode cX11_vacantOf 14 = .ok (.iload_n 3, 1) := by decide +kernel
theorem dX11_vacantOf_15 : decode cX11_vacantOf 15 = .ok (.bipush 100, 2) := by decide +kernel
theorem dX11_vacantOf_17 : decode cX11_vacantOf 17 = .ok (.iload_n 1, 1) := by decide +kernel
theorem dX11_vacantOf_18 : decode cX11_vacantOf 18 = .ok (.imul, 1) := by decide +kernel
theorem dX11_vacantOf_19 : decode cX11_vacantOf 19 = .ok (.invokevirtual 190, 3) := by decide +kernel
theorem dX11_vacantOf_22 : decode cX11_vacantOf 22 = .ok (.ifCond .eq 7, 3) := by decide +kernel
theorem dX11_vacantOf_25 : decode cX11_vacantOf 25 = .ok (.iconst 0, 1) := by decide +kernel
theorem dX11_vacantOf_26 : decode cX11_vacantOf 26 = .ok (.goto 4, 3) := by decide +kernel
theorem dX11_vacantOf_29 : decode cX11_vacantOf 29 = .ok (.iconst 1, 1) := by decide +kernel
theorem dX11_vacantOf_30 : decode cX11_vacantOf 30 = .ok (.iadd, 1) := by decide +kernel
theorem dX11_vacantOf_31 : decode cX11_vacantOf 31 = .ok (.istore_n 2, 1) := by decide +kernel
theorem dX11_vacantOf_32 : decode cX11_vacantOf 32 = .ok (.iinc 3 1, 3) := by decide +kernel
theorem dX11_vacantOf_35 : decode cX11_vacantOf 35 = .ok (.goto (-31), 3) := by decide +kernel
theorem dX11_vacantOf_38 : decode cX11_vacantOf 38 = .ok (.iload_n 2, 1) := by decide +kernel
theorem dX11_vacantOf_39 : decode cX11_vacantOf 39 = .ok (.ifCond .ne 7, 3) := by decide +kernel
theorem dX11_vacantOf_42 : decode cX11_vacantOf 42 = .ok (.lconst 0, 1) := by decide +kernel
theorem dX11_vacantOf_43 : decode cX11_vacantOf 43 = .ok (.goto 21, 3) := by decide +kernel
theorem dX11_vacantOf_46 : decode cX11_vacantOf 46 = .ok (.iload_n 2, 1) := by decide +kernel
theorem dX11_vacantOf_47 : decode cX11_vacantOf 47 = .ok (.i2l, 1) := by decide +kernel
theorem dX11_vacantOf_48 : decode cX11_vacantOf 48 = .ok (.aload_n 0, 1) := by decide +kernel
theorem dX11_vacantOf_49 : decode cX11_vacantOf 49 = .ok (.iconst 4, 1) := by decide +kernel
theorem dX11_vacantOf_50 : decode cX11_vacantOf 50 = .ok (.iconst (-1), 1) := by decide +kernel
theorem dX11_vacantOf_51 : decode cX11_vacantOf 51 = .ok (.bipush 100, 2) := by decide +kernel
theorem dX11_vacantOf_53 : decode cX11_vacantOf 53 = .ok (.iload_n 1, 1) := by decide +kernel
theorem dX11_vacantOf_54 : decode cX11_vacantOf 54 = .ok (.imul, 1) := by decide +kernel
theorem dX11_vacantOf_55 : decode cX11_vacantOf 55 = .ok (.bipush 100, 2) := by decide +kernel
theorem dX11_vacantOf_57 : decode cX11_vacantOf 57 = .ok (.iload_n 1, 1) := by decide +kernel
theorem dX11_vacantOf_58 : decode cX11_vacantOf 58 = .ok (.imul, 1) := by decide +kernel
theorem dX11_vacantOf_59 : decode cX11_vacantOf 59 = .ok (.invokevirtual 193, 3) := by decide +kernel
theorem dX11_vacantOf_62 : decode cX11_vacantOf 62 = .ok (.i2l, 1) := by decide +kernel
theorem dX11_vacantOf_63 : decode cX11_vacantOf 63 = .ok (.lmul, 1) := by decide +kernel
theorem dX11_vacantOf_64 : decode cX11_vacantOf 64 = .ok (.lreturn, 1) := by decide +kernel
set_option maxRecDepth 100000 in
theorem t_M_vacantOf_J30 (hC : CX z ad x cX11_vacantOf RX11 4 (some .long)) (hR : x.2.2.1 = rmk 618 0 0) (k_4 : MS → Int32 → Int32 → Int32 → Option (Int64 × MS)) (hk_4 : ∀ (σ : MS) (a1 : Int32) (a2 : Int32) (a3 : Int32), AT z x 4 (wM z τ) rJ (eqA ad) 0 0 0 0 ad 4 [(0, .ref 0), (1, .int a1), (2, .int a2), (3, .int a3)] [] σ (k_4 σ a1 a2 a3)) (σ : MS) (a1 : Int32) (a3 : Int32) (s0 : Int32) (s1 : Int32) : AT z x 4 (wM z τ) rJ (eqA ad) 0 0 0 0 ad 30 [(0, .ref 0), (1, .int a1), (3, .int a3)] [.int s0, .int s1] σ (M_vacantOf_J30 k_4 σ a1 a3 s0 s1) := by
  unfold M_vacantOf_J30
  refine at_iadd hC dX11_vacantOf_30 ?_
  refine at_istore_n (lv' := [(2, .int (s1 + s0)), (0, .ref 0), (1, .int a1), (3, .int a3)]) hC rfl dX11_vacantOf_31 (by decide) rfl ?_
  refine at_iinc (j := 3) (v := a3 + 1) (lv' := [(3, .int (a3 + 1)), (2, .int (s1 + s0)), (0, .ref 0), (1, .int a1)]) hC dX11_vacantOf_32 rfl rfl (by decide) rfl ?_
  refine at_goto (tgt := 4) hC dX11_vacantOf_35 rfl ?_
  refine at_drop (lv' := [(0, .ref 0), (1, .int a1), (2, .int (s1 + s0)), (3, .int (a3 + 1))]) [2, 3, 1, 0] rfl ?_
  exact hk_4 σ a1 (s1 + s0) (a3 + 1)
set_option maxRecDepth 100000 in
theorem t_M_vacantOf_L4 (hC : CX z ad x cX11_vacantOf RX11 4 (some .long)) (hR : x.2.2.1 = rmk 618 0 0) (n : Nat) (σ : MS) (a1 : Int32) (a2 : Int32) (a3 : Int32) : AT z x 4 (wM z τ) rJ (eqA ad) 0 0 0 0 ad 4 [(0, .ref 0), (1, .int a1), (2, .int a2), (3, .int a3)] [] σ (M_vacantOf_L4 n σ a1 a2 a3) := by
  revert σ a1 a2 a3
  show ∀ (σ : MS) (a1 : Int32) (a2 : Int32) (a3 : Int32), AT z x 4 (wM z τ) rJ (eqA ad) 0 0 0 0 ad 4 [(0, .ref 0), (1, .int a1), (2, .int a2), (3, .int a3)] [] σ (M_vacantOf_L4_r n σ a1 a2 a3)
  induction n with
  | zero => intro σ a1 a2 a3; exact at_none
  | succ n hk_4 =>
    intro σ a1 a2 a3
    unfold M_vacantOf_L4_r
    refine at_iload_n (j := 3) hC rfl rfl dX11_vacantOf_4 ?_
    refine at_aload_n (j := 0) hC rfl rfl dX11_vacantOf_5 ?_
    refine gf_X11_171 hC dX11_vacantOf_6 ?_
    refine at_icmp_ge (tgt := 38) hC dX11_vacantOf_9 rfl (fun _ => ?_) (fun _ => ?_)
    · refine at_iload_n (j := 2) hC rfl rfl dX11_vacantOf_38 ?_
      refine at_if_ne (tgt := 46) hC dX11_vacantOf_39 rfl (fun _ => ?_) (fun _ => ?_)
      · refine at_iload_n (j := 2) hC rfl rfl dX11_vacantOf_46 ?_
        refine at_i2l hC dX11_vacantOf_47 ?_
        refine at_aload_n (j := 0) hC rfl rfl dX11_vacantOf_48 ?_
        refine at_iconst hC ic_4 dX11_vacantOf_49 ?_
        refine at_iconst hC ic_m1 dX11_vacantOf_50 ?_
        refine at_bipush hC bi_100 dX11_vacantOf_51 ?_
        refine at_iload_n (j := 1) hC rfl rfl dX11_vacantOf_53 ?_
        refine at_imul hC dX11_vacantOf_54 ?_
        refine at_bipush hC bi_100 dX11_vacantOf_55 ?_
        refine at_iload_n (j := 1) hC rfl rfl dX11_vacantOf_57 ?_
        refine at_imul hC dX11_vacantOf_58 ?_
        refine at_callVI hC hR lk_X11_193 (c_M_ruled σ 4 (-1) (100 * a1) (100 * a1)) dX11_vacantOf_59 recX11 rfl rfl ⟨by decide, by decide⟩ (Nat.le_of_ble_eq_true rfl) ⟨Nat.le_refl 0, Nat.le_refl 0⟩ (fun r1 r1s _ => ?_)
        refine at_i2l hC dX11_vacantOf_62 ?_
        refine at_lmul hC dX11_vacantOf_63 ?_
        exact at_lret (F := eqA ad) (ra := rJ) hC dX11_vacantOf_64 rfl (Nat.le_refl 0) (Nat.le_refl 0) rfl
      · refine at_lconst hC lc_0 dX11_vacantOf_42 ?_
        refine at_goto (tgt := 64) hC dX11_vacantOf_43 rfl ?_
        exact at_lret (F := eqA ad) (ra := rJ) hC dX11_vacantOf_64 rfl (Nat.le_refl 0) (Nat.le_refl 0) rfl
    · refine at_iload_n (j := 2) hC rfl rfl dX11_vacantOf_12 ?_
      refine at_aload_n (j := 0) hC rfl rfl dX11_vacantOf_13 ?_
      refine at_iload_n (j := 3) hC rfl rfl dX11_vacantOf_14 ?_
      refine at_bipush hC bi_100 dX11_vacantOf_15 ?_
      refine at_iload_n (j := 1) hC rfl rfl dX11_vacantOf_17 ?_
      refine at_imul hC dX11_vacantOf_18 ?_
      refine at_callVpI hC hR lk_X11_190 (c_M_isSeated σ a3 (100 * a1)) dX11_vacantOf_19 recX11 rfl rfl ⟨by decide, by decide⟩ (Nat.le_of_ble_eq_true rfl) ⟨Nat.le_refl 0, Nat.le_refl 0⟩ (fun r2 _ => ?_)
      refine at_if_eq (tgt := 29) hC dX11_vacantOf_22 rfl (fun _ => ?_) (fun _ => ?_)
      · refine at_iconst hC ic_1 dX11_vacantOf_29 ?_
        refine at_drop (lv' := [(0, .ref 0), (1, .int a1), (3, .int a3)]) [0, 1, 3] rfl ?_
        exact t_M_vacantOf_J30 hC hR (M_vacantOf_L4_r n) hk_4 σ a1 a3 1 a2
      · refine at_iconst hC ic_0 dX11_vacantOf_25 ?_
        refine at_goto (tgt := 30) hC dX11_vacantOf_26 rfl ?_
        refine at_drop (lv' := [(0, .ref 0), (1, .int a1), (3, .int a3)]) [0, 1, 3] rfl ?_
        exact t_M_vacantOf_J30 hC hR (M_vacantOf_L4_r n) hk_4 σ a1 a3 0 a2
set_option maxRecDepth 100000 in
theorem c_M_vacantOf (σ : MS) (p0 : Int32) : Ct z (wM z τ) rJ eqA yX11_vacantOf cX11_vacantOf 4 (some .long) 618 0 0 [.ref 0, .int p0] σ (M_vacantOf σ p0) := by
  refine Ct.of (by decide) (Nat.le_of_ble_eq_true rfl) (fun ad x hC hR _ => ?_)
  show AT z x 4 (wM z τ) rJ (eqA ad) 0 0 0 0 ad 0 [(0, .ref 0), (1, .int p0)] [] σ (M_vacantOf σ p0)
  unfold M_vacantOf
  refine at_iconst hC ic_0 dX11_vacantOf_0 ?_
  refine at_istore_n (lv' := [(2, .int 0), (0, .ref 0), (1, .int p0)]) hC rfl dX11_vacantOf_1 (by decide) rfl ?_
  refine at_iconst hC ic_0 dX11_vacantOf_2 ?_
  refine at_istore_n (lv' := [(3, .int 0), (2, .int 0), (0, .ref 0), (1, .int p0)]) hC rfl dX11_vacantOf_3 (by decide) rfl ?_
  refine at_drop (lv' := [(0, .ref 0), (1, .int p0), (2, .int 0), (3, .int 0)]) [2, 3, 1, 0] rfl ?_
  exact t_M_vacantOf_L4 hC hR 100000 σ p0 0 0
theorem dX11_vacant_0 : decode cX11_vacant 0 = .ok (.iload_n 1, 1) := by decide +kernel
theorem dX11_vacant_1 : decode cX11_vacant 1 = .ok (.invokestatic 379, 3) := by decide +kernel
theorem dX11_vacant_4 : decode cX11_vacant 4 = .ok (.ifCond .eq 11, 3) := by decide +kernel
theorem dX11_vacant_7 : decode cX11_vacant 7 = .ok (.aload_n 0, 1) := by decide +kernel
theorem dX11_vacant_8 : decode cX11_vacant 8 = .ok (.iload_n 2, 1) := by decide +kernel
theorem dX11_vacant_9 : decode cX11_vacant 9 = .ok (.invokevirtual 212, 3) := by decide +kernel
theorem dX11_vacant_12 : decode cX11_vacant 12 = .ok (.ifCond .ne 7, 3) := by decide +kernel
theorem dX11_vacant_15 : decode cX11_vacant 15 = .ok (.ldc2_w 382, 3) := by decide +kernel
theorem dX11_vacant_18 : decode cX11_vacant 18 = .ok (.lreturn, 1) := by decide +kernel
theorem dX11_vacant_19 : decode cX11_vacant 19 = .ok (.aload_n 0, 1) := by decide +kernel
theorem dX11_vacant_20 : decode cX11_vacant 20 = .ok (.iload_n 2, 1) := by decide +kernel
theorem dX11_vacant_21 : decode cX11_vacant 21 = .ok (.invokevirtual 143, 3) := by decide +kernel
theorem dX11_vacant_24 : decode cX11_vacant 24 = .ok (.aload_n 0, 1) := by decide +kernel
theorem dX11_vacant_25 : decode cX11_vacant 25 = .ok (.iload_n 1, 1) := by decide +kernel
theorem dX11_vacant_26 : decode cX11_vacant 26 = .ok (.invokevirtual 388, 3) := by decide +kernel
theorem dX11_vacant_29 : decode cX11_vacant 29 = .ok (.lreturn, 1) := by decide +kernel
set_option maxRecDepth 100000 in
theorem c_M_vacant (σ : MS) (p0 : Int32) (p1 : Int32) : Ct z (wM z τ) rJ eqA yX11_vacant cX11_vacant 3 (some .long) 619 0 0 [.ref 0, .int p0, .int p1] σ (M_vacant σ p0 p1) := by
  refine Ct.of (by decide) (Nat.le_of_ble_eq_true rfl) (fun ad x hC hR _ => ?_)
  show AT z x 3 (wM z τ) rJ (eqA ad) 0 0 0 0 ad 0 [(0, .ref 0), (1, .int p0), (2, .int p1)] [] σ (M_vacant σ p0 p1)
  unfold M_vacant
  refine at_iload_n (j := 1) hC rfl rfl dX11_vacant_0 ?_
  refine at_callSpI hC hR lk_X11_379 (c_M_isYear σ p0) dX11_vacant_1 rfl rfl ⟨by decide, by decide⟩ (Nat.le_of_ble_eq_true rfl) ⟨Nat.le_refl 0, Nat.le_refl 0⟩ (fun r1 _ => ?_)
  refine at_if_eq (tgt := 15) hC dX11_vacant_4 rfl (fun _ => ?_) (fun _ => ?_)
  · refine at_ldc2 hC kl_X11_382 dX11_vacant_15 ?_
    exact at_lret (F := eqA ad) (ra := rJ) hC dX11_vacant_18 rfl (Nat.le_refl 0) (Nat.le_refl 0) rfl
  · refine at_aload_n (j := 0) hC rfl rfl dX11_vacant_7 ?_
    refine at_iload_n (j := 2) hC rfl rfl dX11_vacant_8 ?_
    refine at_callVpI hC hR lk_X11_212 (c_M_isBy σ p1) dX11_vacant_9 recX11 rfl rfl ⟨by decide, by decide⟩ (Nat.le_of_ble_eq_true rfl) ⟨Nat.le_refl 0, Nat.le_refl 0⟩ (fun r2 _ => ?_)
    refine at_if_ne (tgt := 19) hC dX11_vacant_12 rfl (fun _ => ?_) (fun _ => ?_)
    · refine at_aload_n (j := 0) hC rfl rfl dX11_vacant_19 ?_
      refine at_iload_n (j := 2) hC rfl rfl dX11_vacant_20 ?_
      refine at_callVU hC hR lk_X11_143 (c_M_looks σ p1) dX11_vacant_21 recX11 rfl rfl ⟨by decide, by decide⟩ (Nat.le_of_ble_eq_true rfl) ⟨Nat.le_refl 0, Nat.le_refl 0⟩ (fun r3 r3s _ => ?_)
      refine at_aload_n (j := 0) hC rfl rfl dX11_vacant_24 ?_
      refine at_iload_n (j := 1) hC rfl rfl dX11_vacant_25 ?_
      refine at_callVJ hC hR lk_X11_388 (c_M_vacantOf r3s p0) dX11_vacant_26 recX11 rfl rfl ⟨by decide, by decide⟩ (Nat.le_of_ble_eq_true rfl) ⟨Nat.le_refl 0, Nat.le_refl 0⟩ (fun r4 r4s _ => ?_)
      exact at_lret (F := eqA ad) (ra := rJ) hC dX11_vacant_29 rfl (Nat.le_refl 0) (Nat.le_refl 0) rfl
    · refine at_ldc2 hC kl_X11_382 dX11_vacant_15 ?_
      exact at_lret (F := eqA ad) (ra := rJ) hC dX11_vacant_18 rfl (Nat.le_refl 0) (Nat.le_refl 0) rfl
theorem dX11_rentOn_0 : decode cX11_rentOn 0 = .ok (.aload_n 0, 1) := by decide +kernel
theorem dX11_rentOn_1 : decode cX11_rentOn 1 = .ok (.iload_n 1, 1) := by decide +kernel
theorem dX11_rentOn_2 : decode cX11_rentOn 2 = .ok (.iload_n 2, 1) := by decide +kernel
theorem dX11_rentOn_3 : decode cX11_rentOn 3 = .ok (.invokevirtual 209, 3) := by decide +kernel
theorem dX11_rentOn_6 : decode cX11_rentOn 6 = .ok (.istore_n 3, 1) := by decide +kernel
theorem dX11_rentOn_7 : decode cX11_rentOn 7 = .ok (.iload_n 3, 1) := by decide +kernel
theorem dX11_rentOn_8 : decode cX11_rentOn 8 = .ok (.iconst (-1), 1) := by decide +kernel
theorem dX11_rentOn_9 : decode cX11_rentOn 9 = .ok (.if_icmp .ne 5, 3) := by decide +kernel
theorem dX11_rentOn_12 : decode cX11_rentOn 12 = .ok (.iconst 0, 1) := by decide +kernel
theorem dX11_rentOn_13 : decode cX11_rentOn 13 = .ok (.ireturn, 1) := by decide +kernel
theorem dX11_rentOn_14 : decode cX11_rentOn 14 = .ok (.aload_n 0, 1) := by decide +kernel
theorem dX11_rentOn_15 : decode cX11_rentOn 15 = .ok (.getfield 114, 3) := by decide +kernel
theorem dX11_rentOn_18 : decode cX11_rentOn 18 = .ok (.iload_n 3, 1) := by decide +kernel
theorem dX11_rentOn_19 : decode cX11_rentOn 19 = .ok (.iaload, 1) := by decide +kernel
theorem dX11_rentOn_20 : decode cX11_rentOn 20 = .ok (.iconst 1, 1) := by decide +kernel
theorem dX11_rentOn_21 : decode cX11_rentOn 21 = .ok (.isub, 1) := by decide +kernel
theorem dX11_rentOn_22 : decode cX11_rentOn 22 = .ok (.istore 4, 2) := by decide +kernel
theorem dX11_rentOn_24 : decode cX11_rentOn 24 = .ok (.iload 4, 2) := by decide +kernel
theorem dX11_rentOn_26 : decode cX11_rentOn 26 = .ok (.istore 5, 2) := by decide +kernel
theorem dX11_rentOn_28 : decode cX11_rentOn 28 = .ok (.iconst 0, 1) := by decide +kernel
theorem dX11_rentOn_29 : decode cX11_rentOn 29 = .ok (.istore 6, 2) := by decide +kernel
theorem dX11_rentOn_31 : decode cX11_rentOn 31 = .ok (.iload 6, 2) := by decide +kernel
theorem dX11_rentOn_33 : decode cX11_rentOn 33 = .ok (.aload_n 0, 1) := by decide +kernel
theorem dX11_rentOn_34 : decode cX11_rentOn 34 = .ok (.getfield 326, 3) := by decide +kernel
theorem dX11_rentOn_37 : decode cX11_rentOn 37 = .ok (.aload_n 0, 1) := by decide +kernel
theorem dX11_rentOn_38 : decode cX11_rentOn 38 = .ok (.getfield 332, 3) := by decide +kernel
theorem dX11_rentOn_41 : decode cX11_rentOn 41 = .ok (.iadd, 1) := by decide +kernel
theorem dX11_rentOn_42 : decode cX11_rentOn 42 = .ok (.if_icmp .ge 56, 3) := by decide +kernel
theorem dX11_rentOn_45 : decode cX11_rentOn 45 = .ok (.aload_n 0, 1) := by decide +kernel
theorem dX11_rentOn_46 : decode cX11_rentOn 46 = .ok (.getfield 48, 3) := by decide +kernel
theorem dX11_rentOn_49 : decode cX11_rentOn 49 = .ok (.iload 6, 2) := by decide +kernel
theorem dX11_rentOn_51 : decode cX11_rentOn 51 = .ok (.baload, 1) := by decide +kernel
theorem dX11_rentOn_52 : decode cX11_rentOn 52 = .ok (.ifCond .eq 36, 3) := by decide +kernel
theorem dX11_rentOn_55 : decode cX11_rentOn 55 = .ok (.aload_n 0, 1) := by decide +kernel
theorem dX11_rentOn_56 : decode cX11_rentOn 56 = .ok (.getfield 42, 3) := by decide +kernel
theorem dX11_rentOn_59 : decode cX11_rentOn 59 = .ok (.iload 6, 2) := by decide +kernel
theorem dX11_rentOn_61 : decode cX11_rentOn 61 = .ok (.iaload, 1) := by decide +kernel
theorem dX11_rentOn_62 : decode cX11_rentOn 62 = .ok (.iload 5, 2) := by decide +kernel
theorem dX11_rentOn_64 : decode cX11_rentOn 64 = .ok (.if_icmp .le 24, 3) := by decide +kernel
theorem dX11_rentOn_67 : decode cX11_rentOn 67 = .ok (.aload_n 0, 1) := by decide +kernel
theorem dX11_rentOn_68 : decode cX11_rentOn 68 = .ok (.getfield 42, 3) := by decide +kernel
theorem dX11_rentOn_71 : decode cX11_rentOn 71 = .ok (.iload 6, 2) := by decide +kernel
theorem dX11_rentOn_73 : decode cX11_rentOn 73 = .ok (.iaload, 1) := by decide +kernel
theorem dX11_rentOn_74 : decode cX11_rentOn 74 = .ok (.iload_n 2, 1) := by decide +kernel
theorem dX11_rentOn_75 : decode cX11_rentOn 75 = .ok (.if_icmp .gt 13, 3) := by decide +kernel
theorem dX11_rentOn_78 : decode cX11_rentOn 78 = .ok (.aload_n 0, 1) := by decide +kernel
theorem dX11_rentOn_79 : decode cX11_rentOn 79 = .ok (.getfield 42, 3) := by decide +kernel
theorem dX11_rentOn_82 : decode cX11_rentOn 82 = .ok (.iload 6, 2) := by decide +kernel
theorem dX11_rentOn_84 : decode cX11_rentOn 84 = .ok (.iaload, 1) := by decide +kernel
theorem dX11_rentOn_85 : decode cX11_rentOn 85 = .ok (.goto 5, 3) := by decide +kernel
theorem dX11_rentOn_88 : decode cX11_rentOn 88 = .ok (.iload 5, 2) := by decide +kernel
theorem dX11_rentOn_90 : decode cX11_rentOn 90 = .ok (.istore 5, 2) := by decide +kernel
theorem dX11_rentOn_92 : decode cX11_rentOn 92 = .ok (.iinc 6 1, 3) := by decide +kernel
theorem dX11_rentOn_95 : decode cX11_rentOn 95 = .ok (.goto (-64), 3) := by decide +kernel
theorem dX11_rentOn_98 : decode cX11_rentOn 98 = .ok (.aload_n 0, 1) := by decide +kernel
theorem dX11_rentOn_99 : decode cX11_rentOn 99 = .ok (.iconst 1, 1) := by decide +kernel
theorem dX11_rentOn_100 : decode cX11_rentOn 100 = .ok (.aload_n 0, 1) := by decide +kernel
theorem dX11_rentOn_101 : decode cX11_rentOn 101 = .ok (.iconst 1, 1) := by decide +kernel
theorem dX11_rentOn_102 : decode cX11_rentOn 102 = .ok (.iload_n 3, 1) := by decide +kernel
theorem dX11_rentOn_103 : decode cX11_rentOn 103 = .ok (.iload 4, 2) := by decide +kernel
theorem dX11_rentOn_105 : decode cX11_rentOn 105 = .ok (.iload 5, 2) := by decide +kernel
theorem dX11_rentOn_107 : decode cX11_rentOn 107 = .ok (.invokevirtual 193, 3) := by decide +kernel
theorem dX11_rentOn_110 : decode cX11_rentOn 110 = .ok (.invokevirtual 357, 3) := by decide +kernel
theorem dX11_rentOn_113 : decode cX11_rentOn 113 = .ok (.ireturn, 1) := by decide +kernel
set_option maxRecDepth 100000 in
theorem t_M_rentOn_J90 (hC : CX z ad x cX11_rentOn RX11 7 (some .int)) (hR : x.2.2.1 = rmk 620 0 0) (k_31 : MS → Int32 → Int32 → Int32 → Int32 → Int32 → Option (Int32 × MS)) (hk_31 : ∀ (σ : MS) (a2 : Int32) (a3 : Int32) (a4 : Int32) (a5 : Int32) (a6 : Int32), AT z x 7 (wM z τ) rI (eqA ad) 0 0 0 0 ad 31 [(0, .ref 0), (2, .int a2), (3, .int a3), (4, .int a4), (5, .int a5), (6, .int a6)] [] σ (k_31 σ a2 a3 a4 a5 a6)) (σ : MS) (a2 : Int32) (a3 : Int32) (a4 : Int32) (a6 : Int32) (s0 : Int32) : AT z x 7 (wM z τ) rI (eqA ad) 0 0 0 0 ad 90 [(0, .ref 0), (2, .int a2), (3, .int a3), (4, .int a4), (6, .int a6)] [.int s0] σ (M_rentOn_J90 k_31 σ a2 a3 a4 a6 s0) := by
  unfold M_rentOn_J90
  refine at_istore (lv' := [(5, .int s0), (0, .ref 0), (2, .int a2), (3, .int a3), (4, .int a4), (6, .int a6)]) hC dX11_rentOn_90 (by decide) rfl ?_
  refine at_iinc (j := 5) (v := a6 + 1) (lv' := [(6, .int (a6 + 1)), (5, .int s0), (0, .ref 0), (2, .int a2), (3, .int a3), (4, .int a4)]) hC dX11_rentOn_92 rfl rfl (by decide) rfl ?_
  refine at_goto (tgt := 31) hC dX11_rentOn_95 rfl ?_
  refine at_drop (lv' := [(0, .ref 0), (2, .int a2), (3, .int a3), (4, .int a4), (5, .int s0), (6, .int (a6 + 1))]) [2, 3, 4, 5, 1, 0] rfl ?_
  exact hk_31 σ a2 a3 a4 s0 (a6 + 1)
set_option maxRecDepth 100000 in
theorem t_M_rentOn_J88 (hC : CX z ad x cX11_rentOn RX11 7 (some .int)) (hR : x.2.2.1 = rmk 620 0 0) (k_31 : MS → Int32 → Int32 → Int32 → Int32 → Int32 → Option (Int32 × MS)) (hk_31 : ∀ (σ : MS) (a2 : Int32) (a3 : Int32) (a4 : Int32) (a5 : Int32) (a6 : Int32), AT z x 7 (wM z τ) rI (eqA ad) 0 0 0 0 ad 31 [(0, .ref 0), (2, .int a2), (3, .int a3), (4, .int a4), (5, .int a5), (6, .int a6)] [] σ (k_31 σ a2 a3 a4 a5 a6)) (σ : MS) (a2 : Int32) (a3 : Int32) (a4 : Int32) (a5 : Int32) (a6 : Int32) : AT z x 7 (wM z τ) rI (eqA ad) 0 0 0 0 ad 88 [(0, .ref 0), (2, .int a2), (3, .int a3), (4, .int a4), (5, .int a5), (6, .int a6)] [] σ (M_rentOn_J88 k_31 σ a2 a3 a4 a5 a6) := by
  unfold M_rentOn_J88
  refine at_iload (j := 4) hC rfl dX11_rentOn_88 ?_
  refine at_drop (lv' := [(0, .ref 0), (2, .int a2), (3, .int a3), (4, .int a4), (6, .int a6)]) [0, 1, 2, 3, 5] rfl ?_
  exact t_M_rentOn_J90 hC hR k_31 hk_31 σ a2 a3 a4 a6 a5
set_option maxRecDepth 100000 in
theorem t_M_rentOn_L31 (hC : CX z ad x cX11_rentOn RX11 7 (some .int)) (hR : x.2.2.1 = rmk 620 0 0) (n : Nat) (σ : MS) (a2 : Int32) (a3 : Int32) (a4 : Int32) (a5 : Int32) (a6 : Int32) : AT z x 7 (wM z τ) rI (eqA ad) 0 0 0 0 ad 31 [(0, .ref 0), (2, .int a2), (3, .int a3), (4, .int a4), (5, .int a5), (6, .int a6)] [] σ (M_rentOn_L31 n σ a2 a3 a4 a5 a6) := by
  revert σ a2 a3 a4 a5 a6
  show ∀ (σ : MS) (a2 : Int32) (a3 : Int32) (a4 : Int32) (a5 : Int32) (a6 : Int32), AT z x 7 (wM z τ) rI (eqA ad) 0 0 0 0 ad 31 [(0, .ref 0), (2, .int a2), (3, .int a3), (4, .int a4), (5, .int a5), (6, .int a6)] [] σ (M_rentOn_L31_r n σ a2 a3 a4 a5 a6)
  induction n with
  | zero => intro σ a2 a3 a4 a5 a6; exact at_none
  | succ n hk_31 =>
    intro σ a2 a3 a4 a5 a6
    unfold M_rentOn_L31_r
    refine at_iload (j := 5) hC rfl dX11_rentOn_31 ?_
    refine at_aload_n (j := 0) hC rfl rfl dX11_rentOn_33 ?_
    refine gf_X11_326 hC dX11_rentOn_34 ?_
    refine at_aload_n (j := 0) hC rfl rfl dX11_rentOn_37 ?_
    refine gf_X11_332 hC dX11_rentOn_38 ?_
    refine at_iadd hC dX11_rentOn_41 ?_
    refine at_icmp_ge (tgt := 98) hC dX11_rentOn_42 rfl (fun _ => ?_) (fun _ => ?_)
    · refine at_aload_n (j := 0) hC rfl rfl dX11_rentOn_98 ?_
      refine at_iconst hC ic_1 dX11_rentOn_99 ?_
      refine at_aload_n (j := 0) hC rfl rfl dX11_rentOn_100 ?_
      refine at_iconst hC ic_1 dX11_rentOn_101 ?_
      refine at_iload_n (j := 2) hC rfl rfl dX11_rentOn_102 ?_
      refine at_iload (j := 3) hC rfl dX11_rentOn_103 ?_
      refine at_iload (j := 4) hC rfl dX11_rentOn_105 ?_
      refine at_callVI hC hR lk_X11_193 (c_M_ruled σ 1 a3 a4 a5) dX11_rentOn_107 recX11 rfl rfl ⟨by decide, by decide⟩ (Nat.le_of_ble_eq_true rfl) ⟨Nat.le_refl 0, Nat.le_refl 0⟩ (fun r3 r3s _ => ?_)
      refine at_callVpI hC hR lk_X11_357 (c_M_stepped r3s 1 r3) dX11_rentOn_110 recX11 rfl rfl ⟨by decide, by decide⟩ (Nat.le_of_ble_eq_true rfl) ⟨Nat.le_refl 0, Nat.le_refl 0⟩ (fun r4 _ => ?_)
      exact at_iret (F := eqA ad) (ra := rI) hC dX11_rentOn_113 rfl (Nat.le_refl 0) (Nat.le_refl 0) rfl
    · refine at_aload_n (j := 0) hC rfl rfl dX11_rentOn_45 ?_
      refine gf_X11_48 hC dX11_rentOn_46 ?_
      refine at_iload (j := 5) hC rfl dX11_rentOn_49 ?_
      refine at_zald hC 13 dX11_rentOn_51 cl_13 (fun v5 => ?_)
      refine at_if_eq (tgt := 88) hC dX11_rentOn_52 rfl (fun _ => ?_) (fun _ => ?_)
      · exact t_M_rentOn_J88 hC hR (M_rentOn_L31_r n) hk_31 σ a2 a3 a4 a5 a6
      · refine at_aload_n (j := 0) hC rfl rfl dX11_rentOn_55 ?_
        refine gf_X11_42 hC dX11_rentOn_56 ?_
        refine at_iload (j := 5) hC rfl dX11_rentOn_59 ?_
        refine at_iald hC 11 dX11_rentOn_61 cl_11 (fun v6 => ?_)
        refine at_iload (j := 4) hC rfl dX11_rentOn_62 ?_
        refine at_icmp_le (tgt := 88) hC dX11_rentOn_64 rfl (fun _ => ?_) (fun _ => ?_)
        · exact t_M_rentOn_J88 hC hR (M_rentOn_L31_r n) hk_31 σ a2 a3 a4 a5 a6
        · refine at_aload_n (j := 0) hC rfl rfl dX11_rentOn_67 ?_
          refine gf_X11_42 hC dX11_rentOn_68 ?_
          refine at_iload (j := 5) hC rfl dX11_rentOn_71 ?_
          refine at_iald hC 11 dX11_rentOn_73 cl_11 (fun v7 => ?_)
          refine at_iload_n (j := 1) hC rfl rfl dX11_rentOn_74 ?_
          refine at_icmp_gt (tgt := 88) hC dX11_rentOn_75 rfl (fun _ => ?_) (fun _ => ?_)
          · exact t_M_rentOn_J88 hC hR (M_rentOn_L31_r n) hk_31 σ a2 a3 a4 a5 a6
          · refine at_aload_n (j := 0) hC rfl rfl dX11_rentOn_78 ?_
            refine gf_X11_42 hC dX11_rentOn_79 ?_
            refine at_iload (j := 5) hC rfl dX11_rentOn_82 ?_
            refine at_iald hC 11 dX11_rentOn_84 cl_11 (fun v8 => ?_)
            refine at_goto (tgt := 90) hC dX11_rentOn_85 rfl ?_
            refine at_drop (lv' := [(0, .ref 0), (2, .int a2), (3, .int a3), (4, .int a4), (6, .int a6)]) [0, 1, 2, 3, 5] rfl ?_
            exact t_M_rentOn_J90 hC hR (M_rentOn_L31_r n) hk_31 σ a2 a3 a4 a6 v8
set_option maxRecDepth 100000 in
theorem c_M_rentOn (σ : MS) (p0 : Int32) (p1 : Int32) : Ct z (wM z τ) rI eqA yX11_rentOn cX11_rentOn 7 (some .int) 620 0 0 [.ref 0, .int p0, .int p1] σ (M_rentOn σ p0 p1) := by
  refine Ct.of (by decide) (Nat.le_of_ble_eq_true rfl) (fun ad x hC hR _ => ?_)
  show AT z x 7 (wM z τ) rI (eqA ad) 0 0 0 0 ad 0 [(0, .ref 0), (1, .int p0), (2, .int p1)] [] σ (M_rentOn σ p0 p1)
  unfold M_rentOn
  refine at_aload_n (j := 0) hC rfl rfl dX11_rentOn_0 ?_
  refine at_iload_n (j := 1) hC rfl rfl dX11_rentOn_1 ?_
  refine at_iload_n (j := 2) hC rfl rfl dX11_rentOn_2 ?_
  refine at_callVI hC hR lk_X11_209 (c_M_widowOf σ p0 p1) dX11_rentOn_3 recX11 rfl rfl ⟨by decide, by decide⟩ (Nat.le_of_ble_eq_true rfl) ⟨Nat.le_refl 0, Nat.le_refl 0⟩ (fun r1 r1s _ => ?_)
  refine at_istore_n (lv' := [(3, .int r1), (0, .ref 0), (1, .int p0), (2, .int p1)]) hC rfl dX11_rentOn_6 (by decide) rfl ?_
  refine at_iload_n (j := 0) hC rfl rfl dX11_rentOn_7 ?_
  refine at_iconst hC ic_m1 dX11_rentOn_8 ?_
  refine at_icmp_ne (tgt := 14) hC dX11_rentOn_9 rfl (fun _ => ?_) (fun _ => ?_)
  · refine at_aload_n (j := 1) hC rfl rfl dX11_rentOn_14 ?_
    refine gf_X11_114 hC dX11_rentOn_15 ?_
    refine at_iload_n (j := 0) hC rfl rfl dX11_rentOn_18 ?_
    refine at_iald hC 33 dX11_rentOn_19 cl_33 (fun v2 => ?_)
    refine at_iconst hC ic_1 dX11_rentOn_20 ?_
    refine at_isub hC dX11_rentOn_21 ?_
    refine at_istore (lv' := [(4, .int (v2 - 1)), (3, .int r1), (0, .ref 0), (1, .int p0), (2, .int p1)]) hC dX11_rentOn_22 (by decide) rfl ?_
    refine at_iload (j := 0) hC rfl dX11_rentOn_24 ?_
    refine at_istore (lv' := [(5, .int (v2 - 1)), (4, .int (v2 - 1)), (3, .int r1), (0, .ref 0), (1, .int p0), (2, .int p1)]) hC dX11_rentOn_26 (by decide) rfl ?_
    refine at_iconst hC ic_0 dX11_rentOn_28 ?_
    refine at_istore (lv' := [(6, .int 0), (5, .int (v2 - 1)), (4, .int (v2 - 1)), (3, .int r1), (0, .ref 0), (1, .int p0), (2, .int p1)]) hC dX11_rentOn_29 (by decide) rfl ?_
    refine at_drop (lv' := [(0, .ref 0), (2, .int p1), (3, .int r1), (4, .int (v2 - 1)), (5, .int (v2 - 1)), (6, .int 0)]) [4, 6, 3, 2, 1, 0] rfl ?_
    exact t_M_rentOn_L31 hC hR 100000 r1s p1 r1 (v2 - 1) (v2 - 1) 0
  · refine at_iconst hC ic_0 dX11_rentOn_12 ?_
    exact at_iret (F := eqA ad) (ra := rI) hC dX11_rentOn_13 rfl (Nat.le_refl 0) (Nat.le_refl 0) rfl
theorem dX11_nextChange_0 : decode cX11_nextChange 0 = .ok (.sipush 10000, 3) := by decide +kernel
theorem dX11_nextChange_3 : decode cX11_nextChange 3 = .ok (.istore_n 2, 1) := by decide +kernel
theorem dX11_nextChange_4 : decode cX11_nextChange 4 = .ok (.iconst 0, 1) := by decide +kernel
theorem dX11_nextChange_5 : decode cX11_nextChange 5 = .ok (.istore_n 3, 1) := by decide +kernel
theorem dX11_nextChange_6 : decode cX11_nextChange 6 = .ok (.iload_n 3, 1) := by decide +kernel
theorem dX11_nextChange_7 : decode cX11_nextChange 7 = .ok (.aload_n 0, 1) := by decide +kernel
theorem dX11_nextChange_8 : decode cX11_nextChange 8 = .ok (.getfield 126, 3) := by decide +kernel
theorem dX11_nextChange_11 : decode cX11_nextChange 11 = .ok (.if_icmp .ge 71, 3) := by decide +kernel
theorem dX11_nextChange_14 : decode cX11_nextChange 14 = .ok (.aload_n 0, 1) := by decide +kernel
theorem dX11_nextChange_15 : decode cX11_nextChange 15 = .ok (.getfield 114, 3) := by decide +kernel
theorem dX11_nextChange_18 : decode cX11_nextChange 18 = .ok (.iload_n 3, 1) := by decide +kernel
theorem dX11_nextChange_19 : decode cX11_nextChange 19 = .ok (.iaload, 1) := by decide +kernel
theorem dX11_nextChange_20 : decode cX11_nextChange 20 = .ok (.iload_n 1, 1) := by decide +kernel
theorem dX11_nextChange_21 : decode cX11_nextChange 21 = .ok (.if_icmp .le 22, 3) := by decide +kernel
theorem dX11_nextChange_24 : decode cX11_nextChange 24 = .ok (.aload_n 0, 1) := by decide +kernel
theorem dX11_nextChange_25 : decode cX11_nextChange 25 = .ok (.getfield 114, 3) := by decide +kernel
theorem dX11_nextChange_28 : decode cX11_nextChange 28 = .ok (.iload_n 3, 1) := by decide +kernel
theorem dX11_nextChange_29 : decode cX11_nextChange 29 = .ok (.iaload, 1) := by decide +kernel
theorem dX11_nextChange_30 : decode cX11_nextChange 30 = .ok (.iload_n 2, 1) := by decide +kernel
theorem dX11_nextChange_31 : decode cX11_nextChange 31 = .ok (.if_icmp .ge 12, 3) := by decide +kernel
theorem dX11_nextChange_34 : decode cX11_nextChange 34 = .ok (.aload_n 0, 1) := by decide +kernel
theorem dX11_nextChange_35 : decode cX11_nextChange 35 = .ok (.getfield 114, 3) := by decide +kernel
theorem dX11_nextChange_38 : decode cX11_nextChange 38 = .ok (.iload_n 3, 1) := by decide +kernel
theorem dX11_nextChange_39 : decode cX11_nextChange 39 = .ok (.iaload, 1) := by decide +kernel
theorem dX11_nextChange_40 : decode cX11_nextChange 40 = .ok (.goto 4, 3) := by decide +kernel
theorem dX11_nextChange_43 : decode cX11_nextChange 43 = .ok (.iload_n 2, 1) := by decide +kernel
theorem dX11_nextChange_44 : decode cX11_nextChange 44 = .ok (.istore_n 2, 1) := by decide +kernel
theorem dX11_nextChange_45 : decode cX11_nextChange 45 = .ok (.aload_n 0, 1) := by decide +kernel
theorem dX11_nextChange_46 : decode cX11_nextChange 46 = .ok (.getfield 15, 3) := by decide +kernel
theorem dX11_nextChange_49 : decode cX11_nextChange 49 = .ok (.iload_n 3, 1) := by decide +kernel
theorem dX11_nextChange_50 : decode cX11_nextChange 50 = .ok (.iaload, 1) := by decide +kernel
theorem dX11_nextChange_51 : decode cX11_nextChange 51 = .ok (.iload_n 1, 1) := by decide +kernel
theorem dX11_nextChange_52 : decode cX11_nextChange 52 = .ok (.if_icmp .le 22, 3) := by decide +kernel
theorem dX11_nextChange_55 : decode cX11_nextChange 55 = .ok (.aload_n 0, 1) := by decide +kernel
theorem dX11_nextChange_56 : decode cX11_nextChange 56 = .ok (.getfield 15, 3) := by decide +kernel
theorem dX11_nextChange_59 : decode cX11_nextChange 59 = .ok (.iload_n 3, 1) := by decide +kernel
theorem dX11_nextChange_60 : decode cX11_nextChange 60 = .ok (.iaload, 1) := by decide +kernel
theorem dX11_nextChange_61 : decode cX11_nextChange 61 = .ok (.iload_n 2, 1) := by decide +kernel
theorem dX11_nextChange_62 : decode cX11_nextChange 62 = .ok (.if_icmp .ge 12, 3) := by decide +kernel
theorem dX11_nextChange_65 : decode cX11_nextChange 65 = .ok (.aload_n 0, 1) := by decide +kernel
theorem dX11_nextChange_66 : decode cX11_nextChange 66 = .ok (.getfield 15, 3) := by decide +kernel
theorem dX11_nextChange_69 : decode cX11_nextChange 69 = .ok (.iload_n 3, 1) := by decide +kernel
theorem dX11_nextChange_70 : decode cX11_nextChange 70 = .ok (.iaload, 1) := by decide +kernel
theorem dX11_nextChange_71 : decode cX11_nextChange 71 = .ok (.goto 4, 3) := by decide +kernel
theorem dX11_nextChange_74 : decode cX11_nextChange 74 = .ok (.iload_n 2, 1) := by decide +kernel
theorem dX11_nextChange_75 : decode cX11_nextChange 75 = .ok (.istore_n 2, 1) := by decide +kernel
theorem dX11_nextChange_76 : decode cX11_nextChange 76 = .ok (.iinc 3 1, 3) := by decide +kernel
theorem dX11_nextChange_79 : decode cX11_nextChange 79 = .ok (.goto (-73), 3) := by decide +kernel
theorem dX11_nextChange_82 : decode cX11_nextChange 82 = .ok (.iconst 0, 1) := by decide +kernel
theorem dX11_nextChange_83 : decode cX11_nextChange 83 = .ok (.istore_n 3, 1) := by decide +kernel
theorem dX11_nextChange_84 : decode cX11_nextChange 84 = .ok (.iload_n 3, 1) := by decide +kernel
theorem dX11_nextChange_85 : decode cX11_nextChange 85 = .ok (.aload_n 0, 1) := by decide +kernel
theorem dX11_nextChange_86 : decode cX11_nextChange 86 = .ok (.getfield 140, 3) := by decide +kernel
theorem dX11_nextChange_89 : decode cX11_nextChange 89 = .ok (.if_icmp .ge 59, 3) := by decide +kernel
theorem dX11_nextChange_92 : decode cX11_nextChange 92 = .ok (.aload_n 0, 1) := by decide +kernel
theorem dX11_nextChange_93 : decode cX11_nextChange 93 = .ok (.getfield 111, 3) := by decide +kernel
theorem dX11_nextChange_96 : decode cX11_nextChange 96 = .ok (.iload_n 3, 1) := by decide +kernel
theorem dX11_nextChange_97 : decode cX11_nextChange 97 = .ok (.baload, 1) := by decide +kernel
theorem dX11_nextChange_98 : decode cX11_nextChange 98 = .ok (.ifCond .eq 42, 3) := by decide +kernel
theorem dX11_nextChange_101 : decode cX11_nextChange 101 = .ok (.aload_n 0, 1) := by decide +kernel
theorem dX11_nextChange_102 : decode cX11_nextChange 102 = .ok (.getfield 24, 3) := by decide +kernel
theorem dX11_nextChange_105 : decode cX11_nextChange 105 = .ok (.iload_n 3, 1) := by decide +kernel
theorem dX11_nextChange_106 : decode cX11_nextChange 106 = .ok (.iaload, 1) := by decide +kernel
theorem dX11_nextChange_107 : decode cX11_nextChange 107 = .ok (.iconst 1, 1) := by decide +kernel
theorem dX11_nextChange_108 : decode cX11_nextChange 108 = .ok (.if_icmp .ne 32, 3) := by decide +kernel
theorem dX11_nextChange_111 : decode cX11_nextChange 111 = .ok (.aload_n 0, 1) := by decide +kernel
theorem dX11_nextChange_112 : decode cX11_nextChange 112 = .ok (.getfield 33, 3) := by decide +kernel
theorem dX11_nextChange_115 : decode cX11_nextChange 115 = .ok (.iload_n 3, 1) := by decide +kernel
theorem dX11_nextChange_116 : decode cX11_nextChange 116 = .ok (.iaload, 1) := by decide +kernel
theorem dX11_nextChange_117 : decode cX11_nextChange 117 = .ok (.iload_n 1, 1) := by decide +kernel
theorem dX11_nextChange_118 : decode cX11_nextChange 118 = .ok (.if_icmp .le 22, 3) := by decide +kernel
theorem dX11_nextChange_121 : decode cX11_nextChange 121 = .ok (.aload_n 0, 1) := by decide +kernel
theorem dX11_nextChange_122 : decode cX11_nextChange 122 = .ok (.getfield 33, 3) := by decide +kernel
theorem dX11_nextChange_125 : decode cX11_nextChange 125 = .ok (.iload_n 3, 1) := by decide +kernel
theorem dX11_nextChange_126 : decode cX11_nextChange 126 = .ok (.iaload, 1) := by decide +kernel
theorem dX11_nextChange_127 : decode cX11_nextChange 127 = .ok (.iload_n 2, 1) := by decide +kernel
theorem dX11_nextChange_128 : decode cX11_nextChange 128 = .ok (.if_icmp .ge 12, 3) := by decide +kernel
theorem dX11_nextChange_131 : decode cX11_nextChange 131 = .ok (.aload_n 0, 1) := by decide +kernel
theorem dX11_nextChange_132 : decode cX11_nextChange 132 = .ok (.getfield 33, 3) := by decide +kernel
theorem dX11_nextChange_135 : decode cX11_nextChange 135 = .ok (.iload_n 3, 1) := by decide +kernel
theorem dX11_nextChange_136 : decode cX11_nextChange 136 = .ok (.iaload, 1) := by decide +kernel
theorem dX11_nextChange_137 : decode cX11_nextChange 137 = .ok (.goto 4, 3) := by decide +kernel
theorem dX11_nextChange_140 : decode cX11_nextChange 140 = .ok (.iload_n 2, 1) := by decide +kernel
theorem dX11_nextChange_141 : decode cX11_nextChange 141 = .ok (.istore_n 2, 1) := by decide +kernel
theorem dX11_nextChange_142 : decode cX11_nextChange 142 = .ok (.iinc 3 1, 3) := by decide +kernel
theorem dX11_nextChange_145 : decode cX11_nextChange 145 = .ok (.goto (-61), 3) := by decide +kernel
theorem dX11_nextChange_148 : decode cX11_nextChange 148 = .ok (.iconst 0, 1) := by decide +kernel
theorem dX11_nextChange_149 : decode cX11_nextChange 149 = .ok (.istore_n 3, 1) := by decide +kernel
theorem dX11_nextChange_150 : decode cX11_nextChange 150 = .ok (.iload_n 3, 1) := by decide +kernel
theorem dX11_nextChange_151 : decode cX11_nextChange 151 = .ok (.aload_n 0, 1) := by decide +kernel
theorem dX11_nextChange_152 : decode cX11_nextChange 152 = .ok (.getfield 326, 3) := by decide +kernel
theorem dX11_nextChange_155 : decode cX11_nextChange 155 = .ok (.aload_n 0, 1) := by decide +kernel
theorem dX11_nextChange_156 : decode cX11_nextChange 156 = .ok (.getfield 332, 3) := by decide +kernel
theorem dX11_nextChange_159 : decode cX11_nextChange 159 = .ok (.iadd, 1) := by decide +kernel
theorem dX11_nextChange_160 : decode cX11_nextChange 160 = .ok (.if_icmp .ge 49, 3) := by decide +kernel
theorem dX11_nextChange_163 : decode cX11_nextChange 163 = .ok (.aload_n 0, 1) := by decide +kernel
theorem dX11_nextChange_164 : decode cX11_nextChange 164 = .ok (.getfield 48, 3) := by decide +kernel
theorem dX11_nextChange_167 : decode cX11_nextChange 167 = .ok (.iload_n 3, 1) := by decide +kernel
theorem dX11_nextChange_168 : decode cX11_nextChange 168 = .ok (.baload, 1) := by decide +kernel
theorem dX11_nextChange_169 : decode cX11_nextChange 169 = .ok (.ifCond .eq 32, 3) := by decide +kernel
theorem dX11_nextChange_172 : decode cX11_nextChange 172 = .ok (.aload_n 0, 1) := by decide +kernel
theorem dX11_nextChange_173 : decode cX11_nextChange 173 = .ok (.getfield 42, 3) := by decide +kernel
theorem dX11_nextChange_176 : decode cX11_nextChange 176 = .ok (.iload_n 3, 1) := by decide +kernel
theorem dX11_nextChange_177 : decode cX11_nextChange 177 = .ok (.iaload, 1) := by decide +kernel
theorem dX11_nextChange_178 : decode cX11_nextChange 178 = .ok (.iload_n 1, 1) := by decide +kernel
theorem dX11_nextChange_179 : decode cX11_nextChange 179 = .ok (.if_icmp .le 22, 3) := by decide +kernel
theorem dX11_nextChange_182 : decode cX11_nextChange 182 = .ok (.aload_n 0, 1) := by decide +kernel
theorem dX11_nextChange_183 : decode cX11_nextChange 183 = .ok (.getfield 42, 3) := by decide +kernel
theorem dX11_nextChange_186 : decode cX11_nextChange 186 = .ok (.iload_n 3, 1) := by decide +kernel
theorem dX11_nextChange_187 : decode cX11_nextChange 187 = .ok (.iaload, 1) := by decide +kernel
theorem dX11_nextChange_188 : decode cX11_nextChange 188 = .ok (.iload_n 2, 1) := by decide +kernel
theorem dX11_nextChange_189 : decode cX11_nextChange 189 = .ok (.if_icmp .ge 12, 3) := by decide +kernel
theorem dX11_nextChange_192 : decode cX11_nextChange 192 = .ok (.aload_n 0, 1) := by decide +kernel
theorem dX11_nextChange_193 : decode cX11_nextChange 193 = .ok (.getfield 42, 3) := by decide +kernel
theorem dX11_nextChange_196 : decode cX11_nextChange 196 = .ok (.iload_n 3, 1) := by decide +kernel
theorem dX11_nextChange_197 : decode cX11_nextChange 197 = .ok (.iaload, 1) := by decide +kernel
theorem dX11_nextChange_198 : decode cX11_nextChange 198 = .ok (.goto 4, 3) := by decide +kernel
theorem dX11_nextChange_201 : decode cX11_nextChange 201 = .ok (.iload_n 2, 1) := by decide +kernel
theorem dX11_nextChange_202 : decode cX11_nextChange 202 = .ok (.istore_n 2, 1) := by decide +kernel
theorem dX11_nextChange_203 : decode cX11_nextChange 203 = .ok (.iinc 3 1, 3) := by decide +kernel
theorem dX11_nextChange_206 : decode cX11_nextChange 206 = .ok (.goto (-56), 3) := by decide +kernel
theorem dX11_nextChange_209 : decode cX11_nextChange 209 = .ok (.iload_n 2, 1) := by decide +kernel
theorem dX11_nextChange_210 : decode cX11_nextChange 210 = .ok (.ireturn, 1) := by decide +kernel
set_option maxRecDepth 100000 in
theorem t_M_nextChange_J202 (hC : CX z ad x cX11_nextChange RX11 4 (some .int)) (hR : x.2.2.1 = rmk 1 0 0) (σ : MS) (k_150 : Int32 → Int32 → Int32 → Option Int32) (hk_150 : ∀ (a1 : Int32) (a2 : Int32) (a3 : Int32), AT z x 4 (wM z τ) rI (eqA ad) 0 0 0 0 ad 150 [(0, .ref 0), (1, .int a1), (2, .int a2), (3, .int a3)] [] σ ((k_150 a1 a2 a3).map fun r => (r, σ))) (a1 : Int32) (a3 : Int32) (s0 : Int32) : AT z x 4 (wM z τ) rI (eqA ad) 0 0 0 0 ad 202 [(0, .ref 0), (1, .int a1), (3, .int a3)] [.int s0] σ ((M_nextChange_J202 k_150 σ a1 a3 s0).map fun r => (r, σ)) := by
  unfold M_nextChange_J202
  refine at_istore_n (lv' := [(2, .int s0), (0, .ref 0), (1, .int a1), (3, .int a3)]) hC rfl dX11_nextChange_202 (by decide) rfl ?_
  refine at_iinc (j := 3) (v := a3 + 1) (lv' := [(3, .int (a3 + 1)), (2, .int s0), (0, .ref 0), (1, .int a1)]) hC dX11_nextChange_203 rfl rfl (by decide) rfl ?_
  refine at_goto (tgt := 150) hC dX11_nextChange_206 rfl ?_
  refine at_drop (lv' := [(0, .ref 0), (1, .int a1), (2, .int s0), (3, .int (a3 + 1))]) [2, 3, 1, 0] rfl ?_
  exact hk_150 a1 s0 (a3 + 1)
set_option maxRecDepth 100000 in
theorem t_M_nextChange_J201 (hC : CX z ad x cX11_nextChange RX11 4 (some .int)) (hR : x.2.2.1 = rmk 1 0 0) (σ : MS) (k_150 : Int32 → Int32 → Int32 → Option Int32) (hk_150 : ∀ (a1 : Int32) (a2 : Int32) (a3 : Int32), AT z x 4 (wM z τ) rI (eqA ad) 0 0 0 0 ad 150 [(0, .ref 0), (1, .int a1), (2, .int a2), (3, .int a3)] [] σ ((k_150 a1 a2 a3).map fun r => (r, σ))) (a1 : Int32) (a2 : Int32) (a3 : Int32) : AT z x 4 (wM z τ) rI (eqA ad) 0 0 0 0 ad 201 [(0, .ref 0), (1, .int a1), (2, .int a2), (3, .int a3)] [] σ ((M_nextChange_J201 k_150 σ a1 a2 a3).map fun r => (r, σ)) := by
  unfold M_nextChange_J201
  refine at_iload_n (j := 2) hC rfl rfl dX11_nextChange_201 ?_
  refine at_drop (lv' := [(0, .ref 0), (1, .int a1), (3, .int a3)]) [0, 1, 3] rfl ?_
  exact t_M_nextChange_J202 hC hR σ k_150 hk_150 a1 a3 a2
set_option maxRecDepth 100000 in
theorem t_M_nextChange_L150 (hC : CX z ad x cX11_nextChange RX11 4 (some .int)) (hR : x.2.2.1 = rmk 1 0 0) (σ : MS) (n : Nat) (a1 : Int32) (a2 : Int32) (a3 : Int32) : AT z x 4 (wM z τ) rI (eqA ad) 0 0 0 0 ad 150 [(0, .ref 0), (1, .int a1), (2, .int a2), (3, .int a3)] [] σ ((M_nextChange_L150 n σ a1 a2 a3).map fun r => (r, σ)) := by
  revert a1 a2 a3
  show ∀ (a1 : Int32) (a2 : Int32) (a3 : Int32), AT z x 4 (wM z τ) rI (eqA ad) 0 0 0 0 ad 150 [(0, .ref 0), (1, .int a1), (2, .int a2), (3, .int a3)] [] σ ((M_nextChange_L150_r σ n a1 a2 a3).map fun r => (r, σ))
  induction n with
  | zero => intro a1 a2 a3; exact ap_none
  | succ n hk_150 =>
    intro a1 a2 a3
    unfold M_nextChange_L150_r
    refine at_iload_n (j := 3) hC rfl rfl dX11_nextChange_150 ?_
    refine at_aload_n (j := 0) hC rfl rfl dX11_nextChange_151 ?_
    refine gf_X11_326 hC dX11_nextChange_152 ?_
    refine at_aload_n (j := 0) hC rfl rfl dX11_nextChange_155 ?_
    refine gf_X11_332 hC dX11_nextChange_156 ?_
    refine at_iadd hC dX11_nextChange_159 ?_
    refine ap_icmp_ge (tgt := 209) hC dX11_nextChange_160 rfl (fun _ => ?_) (fun _ => ?_)
    · refine at_iload_n (j := 2) hC rfl rfl dX11_nextChange_209 ?_
      exact at_iret (F := eqA ad) (ra := rI) hC dX11_nextChange_210 rfl (Nat.le_refl 0) (Nat.le_refl 0) rfl
    · refine at_aload_n (j := 0) hC rfl rfl dX11_nextChange_163 ?_
      refine gf_X11_48 hC dX11_nextChange_164 ?_
      refine at_iload_n (j := 3) hC rfl rfl dX11_nextChange_167 ?_
      refine ap_zald hC 13 dX11_nextChange_168 cl_13 (fun v1 => ?_)
      refine ap_if_eq (tgt := 201) hC dX11_nextChange_169 rfl (fun _ => ?_) (fun _ => ?_)
      · exact t_M_nextChange_J201 hC hR σ (M_nextChange_L150_r σ n) hk_150 a1 a2 a3
      · refine at_aload_n (j := 0) hC rfl rfl dX11_nextChange_172 ?_
        refine gf_X11_42 hC dX11_nextChange_173 ?_
        refine at_iload_n (j := 3) hC rfl rfl dX11_nextChange_176 ?_
        refine ap_iald hC 11 dX11_nextChange_177 cl_11 (fun v2 => ?_)
        refine at_iload_n (j := 1) hC rfl rfl dX11_nextChange_178 ?_
        refine ap_icmp_le (tgt := 201) hC dX11_nextChange_179 rfl (fun _ => ?_) (fun _ => ?_)
        · exact t_M_nextChange_J201 hC hR σ (M_nextChange_L150_r σ n) hk_150 a1 a2 a3
        · refine at_aload_n (j := 0) hC rfl rfl dX11_nextChange_182 ?_
          refine gf_X11_42 hC dX11_nextChange_183 ?_
          refine at_iload_n (j := 3) hC rfl rfl dX11_nextChange_186 ?_
          refine ap_iald hC 11 dX11_nextChange_187 cl_11 (fun v3 => ?_)
          refine at_iload_n (j := 2) hC rfl rfl dX11_nextChange_188 ?_
          refine ap_icmp_ge (tgt := 201) hC dX11_nextChange_189 rfl (fun _ => ?_) (fun _ => ?_)
          · exact t_M_nextChange_J201 hC hR σ (M_nextChange_L150_r σ n) hk_150 a1 a2 a3
          · refine at_aload_n (j := 0) hC rfl rfl dX11_nextChange_192 ?_
            refine gf_X11_42 hC dX11_nextChange_193 ?_
            refine at_iload_n (j := 3) hC rfl rfl dX11_nextChange_196 ?_
            refine ap_iald hC 11 dX11_nextChange_197 cl_11 (fun v4 => ?_)
            refine at_goto (tgt := 202) hC dX11_nextChange_198 rfl ?_
            refine at_drop (lv' := [(0, .ref 0), (1, .int a1), (3, .int a3)]) [0, 1, 3] rfl ?_
            exact t_M_nextChange_J202 hC hR σ (M_nextChange_L150_r σ n) hk_150 a1 a3 v4
set_option maxRecDepth 100000 in
theorem t_M_nextChange_J141 (hC : CX z ad x cX11_nextChange RX11 4 (some .int)) (hR : x.2.2.1 = rmk 1 0 0) (σ : MS) (k_84 : Int32 → Int32 → Int32 → Option Int32) (hk_84 : ∀ (a1 : Int32) (a2 : Int32) (a3 : Int32), AT z x 4 (wM z τ) rI (eqA ad) 0 0 0 0 ad 84 [(0, .ref 0), (1, .int a1), (2, .int a2), (3, .int a3)] [] σ ((k_84 a1 a2 a3).map fun r => (r, σ))) (a1 : Int32) (a3 : Int32) (s0 : Int32) : AT z x 4 (wM z τ) rI (eqA ad) 0 0 0 0 ad 141 [(0, .ref 0), (1, .int a1), (3, .int a3)] [.int s0] σ ((M_nextChange_J141 k_84 σ a1 a3 s0).map fun r => (r, σ)) := by
  unfold M_nextChange_J141
  refine at_istore_n (lv' := [(2, .int s0), (0, .ref 0), (1, .int a1), (3, .int a3)]) hC rfl dX11_nextChange_141 (by decide) rfl ?_
  refine at_iinc (j := 3) (v := a3 + 1) (lv' := [(3, .int (a3 + 1)), (2, .int s0), (0, .ref 0), (1, .int a1)]) hC dX11_nextChange_142 rfl rfl (by decide) rfl ?_
  refine at_goto (tgt := 84) hC dX11_nextChange_145 rfl ?_
  refine at_drop (lv' := [(0, .ref 0), (1, .int a1), (2, .int s0), (3, .int (a3 + 1))]) [2, 3, 1, 0] rfl ?_
  exact hk_84 a1 s0 (a3 + 1)
set_option maxRecDepth 100000 in
theorem t_M_nextChange_J140 (hC : CX z ad x cX11_nextChange RX11 4 (some .int)) (hR : x.2.2.1 = rmk 1 0 0) (σ : MS) (k_84 : Int32 → Int32 → Int32 → Option Int32) (hk_84 : ∀ (a1 : Int32) (a2 : Int32) (a3 : Int32), AT z x 4 (wM z τ) rI (eqA ad) 0 0 0 0 ad 84 [(0, .ref 0), (1, .int a1), (2, .int a2), (3, .int a3)] [] σ ((k_84 a1 a2 a3).map fun r => (r, σ))) (a1 : Int32) (a2 : Int32) (a3 : Int32) : AT z x 4 (wM z τ) rI (eqA ad) 0 0 0 0 ad 140 [(0, .ref 0), (1, .int a1), (2, .int a2), (3, .int a3)] [] σ ((M_nextChange_J140 k_84 σ a1 a2 a3).map fun r => (r, σ)) := by
  unfold M_nextChange_J140
  refine at_iload_n (j := 2) hC rfl rfl dX11_nextChange_140 ?_
  refine at_drop (lv' := [(0, .ref 0), (1, .int a1), (3, .int a3)]) [0, 1, 3] rfl ?_
  exact t_M_nextChange_J141 hC hR σ k_84 hk_84 a1 a3 a2
set_option maxRecDepth 100000 in
theorem t_M_nextChange_L84 (hC : CX z ad x cX11_nextChange RX11 4 (some .int)) (hR : x.2.2.1 = rmk 1 0 0) (σ : MS) (n : Nat) (a1 : Int32) (a2 : Int32) (a3 : Int32) : AT z x 4 (wM z τ) rI (eqA ad) 0 0 0 0 ad 84 [(0, .ref 0), (1, .int a1), (2, .int a2), (3, .int a3)] [] σ ((M_nextChange_L84 n σ a1 a2 a3).map fun r => (r, σ)) := by
  revert a1 a2 a3
  show ∀ (a1 : Int32) (a2 : Int32) (a3 : Int32), AT z x 4 (wM z τ) rI (eqA ad) 0 0 0 0 ad 84 [(0, .ref 0), (1, .int a1), (2, .int a2), (3, .int a3)] [] σ ((M_nextChange_L84_r σ n a1 a2 a3).map fun r => (r, σ))
  induction n with
  | zero => intro a1 a2 a3; exact ap_none
  | succ n hk_84 =>
    intro a1 a2 a3
    unfold M_nextChange_L84_r
    refine at_iload_n (j := 3) hC rfl rfl dX11_nextChange_84 ?_
    refine at_aload_n (j := 0) hC rfl rfl dX11_nextChange_85 ?_
    refine gf_X11_140 hC dX11_nextChange_86 ?_
    refine ap_icmp_ge (tgt := 148) hC dX11_nextChange_89 rfl (fun _ => ?_) (fun _ => ?_)
    · refine at_iconst hC ic_0 dX11_nextChange_148 ?_
      refine at_istore_n (lv' := [(3, .int 0), (0, .ref 0), (1, .int a1), (2, .int a2)]) hC rfl dX11_nextChange_149 (by decide) rfl ?_
      refine at_drop (lv' := [(0, .ref 0), (1, .int a1), (2, .int a2), (3, .int 0)]) [1, 2, 3, 0] rfl ?_
      exact t_M_nextChange_L150 hC hR σ 100000 a1 a2 0
    · refine at_aload_n (j := 0) hC rfl rfl dX11_nextChange_92 ?_
      refine gf_X11_111 hC dX11_nextChange_93 ?_
      refine at_iload_n (j := 3) hC rfl rfl dX11_nextChange_96 ?_
      refine ap_zald hC 32 dX11_nextChange_97 cl_32 (fun v5 => ?_)
      refine ap_if_eq (tgt := 140) hC dX11_nextChange_98 rfl (fun _ => ?_) (fun _ => ?_)
      · exact t_M_nextChange_J140 hC hR σ (M_nextChange_L84_r σ n) hk_84 a1 a2 a3
      · refine at_aload_n (j := 0) hC rfl rfl dX11_nextChange_101 ?_
        refine gf_X11_24 hC dX11_nextChange_102 ?_
        refine at_iload_n (j := 3) hC rfl rfl dX11_nextChange_105 ?_
        refine ap_iald hC 5 dX11_nextChange_106 cl_5 (fun v6 => ?_)
        refine at_iconst hC ic_1 dX11_nextChange_107 ?_
        refine ap_icmp_ne (tgt := 140) hC dX11_nextChange_108 rfl (fun _ => ?_) (fun _ => ?_)
        · exact t_M_nextChange_J140 hC hR σ (M_nextChange_L84_r σ n) hk_84 a1 a2 a3
        · refine at_aload_n (j := 0) hC rfl rfl dX11_nextChange_111 ?_
          refine gf_X11_33 hC dX11_nextChange_112 ?_
          refine at_iload_n (j := 3) hC rfl rfl dX11_nextChange_115 ?_
          refine ap_iald hC 8 dX11_nextChange_116 cl_8 (fun v7 => ?_)
          refine at_iload_n (j := 1) hC rfl rfl dX11_nextChange_117 ?_
          refine ap_icmp_le (tgt := 140) hC dX11_nextChange_118 rfl (fun _ => ?_) (fun _ => ?_)
          · exact t_M_nextChange_J140 hC hR σ (M_nextChange_L84_r σ n) hk_84 a1 a2 a3
          · refine at_aload_n (j := 0) hC rfl rfl dX11_nextChange_121 ?_
            refine gf_X11_33 hC dX11_nextChange_122 ?_
            refine at_iload_n (j := 3) hC rfl rfl dX11_nextChange_125 ?_
            refine ap_iald hC 8 dX11_nextChange_126 cl_8 (fun v8 => ?_)
            refine at_iload_n (j := 2) hC rfl rfl dX11_nextChange_127 ?_
            refine ap_icmp_ge (tgt := 140) hC dX11_nextChange_128 rfl (fun _ => ?_) (fun _ => ?_)
            · exact t_M_nextChange_J140 hC hR σ (M_nextChange_L84_r σ n) hk_84 a1 a2 a3
            · refine at_aload_n (j := 0) hC rfl rfl dX11_nextChange_131 ?_
              refine gf_X11_33 hC dX11_nextChange_132 ?_
              refine at_iload_n (j := 3) hC rfl rfl dX11_nextChange_135 ?_
              refine ap_iald hC 8 dX11_nextChange_136 cl_8 (fun v9 => ?_)
              refine at_goto (tgt := 141) hC dX11_nextChange_137 rfl ?_
              refine at_drop (lv' := [(0, .ref 0), (1, .int a1), (3, .int a3)]) [0, 1, 3] rfl ?_
              exact t_M_nextChange_J141 hC hR σ (M_nextChange_L84_r σ n) hk_84 a1 a3 v9
set_option maxRecDepth 100000 in
theorem t_M_nextChange_J75 (hC : CX z ad x cX11_nextChange RX11 4 (some .int)) (hR : x.2.2.1 = rmk 1 0 0) (σ : MS) (k_6 : Int32 → Int32 → Int32 → Option Int32) (hk_6 : ∀ (a1 : Int32) (a2 : Int32) (a3 : Int32), AT z x 4 (wM z τ) rI (eqA ad) 0 0 0 0 ad 6 [(0, .ref 0), (1, .int a1), (2, .int a2), (3, .int a3)] [] σ ((k_6 a1 a2 a3).map fun r => (r, σ))) (a1 : Int32) (a3 : Int32) (s0 : Int32) : AT z x 4 (wM z τ) rI (eqA ad) 0 0 0 0 ad 75 [(0, .ref 0), (1, .int a1), (3, .int a3)] [.int s0] σ ((M_nextChange_J75 k_6 σ a1 a3 s0).map fun r => (r, σ)) := by
  unfold M_nextChange_J75
  refine at_istore_n (lv' := [(2, .int s0), (0, .ref 0), (1, .int a1), (3, .int a3)]) hC rfl dX11_nextChange_75 (by decide) rfl ?_
  refine at_iinc (j := 3) (v := a3 + 1) (lv' := [(3, .int (a3 + 1)), (2, .int s0), (0, .ref 0), (1, .int a1)]) hC dX11_nextChange_76 rfl rfl (by decide) rfl ?_
  refine at_goto (tgt := 6) hC dX11_nextChange_79 rfl ?_
  refine at_drop (lv' := [(0, .ref 0), (1, .int a1), (2, .int s0), (3, .int (a3 + 1))]) [2, 3, 1, 0] rfl ?_
  exact hk_6 a1 s0 (a3 + 1)
set_option maxRecDepth 100000 in
theorem t_M_nextChange_J74 (hC : CX z ad x cX11_nextChange RX11 4 (some .int)) (hR : x.2.2.1 = rmk 1 0 0) (σ : MS) (k_6 : Int32 → Int32 → Int32 → Option Int32) (hk_6 : ∀ (a1 : Int32) (a2 : Int32) (a3 : Int32), AT z x 4 (wM z τ) rI (eqA ad) 0 0 0 0 ad 6 [(0, .ref 0), (1, .int a1), (2, .int a2), (3, .int a3)] [] σ ((k_6 a1 a2 a3).map fun r => (r, σ))) (a1 : Int32) (a2 : Int32) (a3 : Int32) : AT z x 4 (wM z τ) rI (eqA ad) 0 0 0 0 ad 74 [(0, .ref 0), (1, .int a1), (2, .int a2), (3, .int a3)] [] σ ((M_nextChange_J74 k_6 σ a1 a2 a3).map fun r => (r, σ)) := by
  unfold M_nextChange_J74
  refine at_iload_n (j := 2) hC rfl rfl dX11_nextChange_74 ?_
  refine at_drop (lv' := [(0, .ref 0), (1, .int a1), (3, .int a3)]) [0, 1, 3] rfl ?_
  exact t_M_nextChange_J75 hC hR σ k_6 hk_6 a1 a3 a2
set_option maxRecDepth 100000 in
theorem t_M_nextChange_J44 (hC : CX z ad x cX11_nextChange RX11 4 (some .int)) (hR : x.2.2.1 = rmk 1 0 0) (σ : MS) (k_6 : Int32 → Int32 → Int32 → Option Int32) (hk_6 : ∀ (a1 : Int32) (a2 : Int32) (a3 : Int32), AT z x 4 (wM z τ) rI (eqA ad) 0 0 0 0 ad 6 [(0, .ref 0), (1, .int a1), (2, .int a2), (3, .int a3)] [] σ ((k_6 a1 a2 a3).map fun r => (r, σ))) (a1 : Int32) (a3 : Int32) (s0 : Int32) : AT z x 4 (wM z τ) rI (eqA ad) 0 0 0 0 ad 44 [(0, .ref 0), (1, .int a1), (3, .int a3)] [.int s0] σ ((M_nextChange_J44 k_6 σ a1 a3 s0).map fun r => (r, σ)) := by
  unfold M_nextChange_J44
  refine at_istore_n (lv' := [(2, .int s0), (0, .ref 0), (1, .int a1), (3, .int a3)]) hC rfl dX11_nextChange_44 (by decide) rfl ?_
  refine at_aload_n (j := 1) hC rfl rfl dX11_nextChange_45 ?_
  refine gf_X11_15 hC dX11_nextChange_46 ?_
  refine at_iload_n (j := 3) hC rfl rfl dX11_nextChange_49 ?_
  refine ap_iald hC 2 dX11_nextChange_50 cl_2 (fun v11 => ?_)
  refine at_iload_n (j := 2) hC rfl rfl dX11_nextChange_51 ?_
  refine ap_icmp_le (tgt := 74) hC dX11_nextChange_52 rfl (fun _ => ?_) (fun _ => ?_)
  · refine at_drop (lv' := [(0, .ref 0), (1, .int a1), (2, .int s0), (3, .int a3)]) [1, 2, 0, 3] rfl ?_
    exact t_M_nextChange_J74 hC hR σ k_6 hk_6 a1 s0 a3
  · refine at_aload_n (j := 1) hC rfl rfl dX11_nextChange_55 ?_
    refine gf_X11_15 hC dX11_nextChange_56 ?_
    refine at_iload_n (j := 3) hC rfl rfl dX11_nextChange_59 ?_
    refine ap_iald hC 2 dX11_nextChange_60 cl_2 (fun v12 => ?_)
    refine at_iload_n (j := 0) hC rfl rfl dX11_nextChange_61 ?_
    refine ap_icmp_ge (tgt := 74) hC dX11_nextChange_62 rfl (fun _ => ?_) (fun _ => ?_)
    · refine at_drop (lv' := [(0, .ref 0), (1, .int a1), (2, .int s0), (3, .int a3)]) [1, 2, 0, 3] rfl ?_
      exact t_M_nextChange_J74 hC hR σ k_6 hk_6 a1 s0 a3
    · refine at_aload_n (j := 1) hC rfl rfl dX11_nextChange_65 ?_
      refine gf_X11_15 hC dX11_nextChange_66 ?_
      refine at_iload_n (j := 3) hC rfl rfl dX11_nextChange_69 ?_
      refine ap_iald hC 2 dX11_nextChange_70 cl_2 (fun v13 => ?_)
      refine at_goto (tgt := 75) hC dX11_nextChange_71 rfl ?_
      refine at_drop (lv' := [(0, .ref 0), (1, .int a1), (3, .int a3)]) [1, 2, 3] rfl ?_
      exact t_M_nextChange_J75 hC hR σ k_6 hk_6 a1 a3 v13
set_option maxRecDepth 100000 in
theorem t_M_nextChange_J43 (hC : CX z ad x cX11_nextChange RX11 4 (some .int)) (hR : x.2.2.1 = rmk 1 0 0) (σ : MS) (k_6 : Int32 → Int32 → Int32 → Option Int32) (hk_6 : ∀ (a1 : Int32) (a2 : Int32) (a3 : Int32), AT z x 4 (wM z τ) rI (eqA ad) 0 0 0 0 ad 6 [(0, .ref 0), (1, .int a1), (2, .int a2), (3, .int a3)] [] σ ((k_6 a1 a2 a3).map fun r => (r, σ))) (a1 : Int32) (a2 : Int32) (a3 : Int32) : AT z x 4 (wM z τ) rI (eqA ad) 0 0 0 0 ad 43 [(0, .ref 0), (1, .int a1), (2, .int a2), (3, .int a3)] [] σ ((M_nextChange_J43 k_6 σ a1 a2 a3).map fun r => (r, σ)) := by
  unfold M_nextChange_J43
  refine at_iload_n (j := 2) hC rfl rfl dX11_nextChange_43 ?_
  refine at_drop (lv' := [(0, .ref 0), (1, .int a1), (3, .int a3)]) [0, 1, 3] rfl ?_
  exact t_M_nextChange_J44 hC hR σ k_6 hk_6 a1 a3 a2
set_option maxRecDepth 100000 in
theorem t_M_nextChange_L6 (hC : CX z ad x cX11_nextChange RX11 4 (some .int)) (hR : x.2.2.1 = rmk 1 0 0) (σ : MS) (n : Nat) (a1 : Int32) (a2 : Int32) (a3 : Int32) : AT z x 4 (wM z τ) rI (eqA ad) 0 0 0 0 ad 6 [(0, .ref 0), (1, .int a1), (2, .int a2), (3, .int a3)] [] σ ((M_nextChange_L6 n σ a1 a2 a3).map fun r => (r, σ)) := by
  revert a1 a2 a3
  show ∀ (a1 : Int32) (a2 : Int32) (a3 : Int32), AT z x 4 (wM z τ) rI (eqA ad) 0 0 0 0 ad 6 [(0, .ref 0), (1, .int a1), (2, .int a2), (3, .int a3)] [] σ ((M_nextChange_L6_r σ n a1 a2 a3).map fun r => (r, σ))
  induction n with
  | zero => intro a1 a2 a3; exact ap_none
  | succ n hk_6 =>
    intro a1 a2 a3
    unfold M_nextChange_L6_r
    refine at_iload_n (j := 3) hC rfl rfl dX11_nextChange_6 ?_
    refine at_aload_n (j := 0) hC rfl rfl dX11_nextChange_7 ?_
    refine gf_X11_126 hC dX11_nextChange_8 ?_
    refine ap_icmp_ge (tgt := 82) hC dX11_nextChange_11 rfl (fun _ => ?_) (fun _ => ?_)
    · refine at_iconst hC ic_0 dX11_nextChange_82 ?_
      refine at_istore_n (lv' := [(3, .int 0), (0, .ref 0), (1, .int a1), (2, .int a2)]) hC rfl dX11_nextChange_83 (by decide) rfl ?_
      refine at_drop (lv' := [(0, .ref 0), (1, .int a1), (2, .int a2), (3, .int 0)]) [1, 2, 3, 0] rfl ?_
      exact t_M_nextChange_L84 hC hR σ 100000 a1 a2 0
    · refine at_aload_n (j := 0) hC rfl rfl dX11_nextChange_14 ?_
      refine gf_X11_114 hC dX11_nextChange_15 ?_
      refine at_iload_n (j := 3) hC rfl rfl dX11_nextChange_18 ?_
      refine ap_iald hC 33 dX11_nextChange_19 cl_33 (fun v10 => ?_)
      refine at_iload_n (j := 1) hC rfl rfl dX11_nextChange_20 ?_
      refine ap_icmp_le (tgt := 43) hC dX11_nextChange_21 rfl (fun _ => ?_) (fun _ => ?_)
      · exact t_M_nextChange_J43 hC hR σ (M_nextChange_L6_r σ n) hk_6 a1 a2 a3
      · refine at_aload_n (j := 0) hC rfl rfl dX11_nextChange_24 ?_
        refine gf_X11_114 hC dX11_nextChange_25 ?_
        refine at_iload_n (j := 3) hC rfl rfl dX11_nextChange_28 ?_
        refine ap_iald hC 33 dX11_nextChange_29 cl_33 (fun v14 => ?_)
        refine at_iload_n (j := 2) hC rfl rfl dX11_nextChange_30 ?_
        refine ap_icmp_ge (tgt := 43) hC dX11_nextChange_31 rfl (fun _ => ?_) (fun _ => ?_)
        · exact t_M_nextChange_J43 hC hR σ (M_nextChange_L6_r σ n) hk_6 a1 a2 a3
        · refine at_aload_n (j := 0) hC rfl rfl dX11_nextChange_34 ?_
          refine gf_X11_114 hC dX11_nextChange_35 ?_
          refine at_iload_n (j := 3) hC rfl rfl dX11_nextChange_38 ?_
          refine ap_iald hC 33 dX11_nextChange_39 cl_33 (fun v15 => ?_)
          refine at_goto (tgt := 44) hC dX11_nextChange_40 rfl ?_
          refine at_drop (lv' := [(0, .ref 0), (1, .int a1), (3, .int a3)]) [0, 1, 3] rfl ?_
          exact t_M_nextChange_J44 hC hR σ (M_nextChange_L6_r σ n) hk_6 a1 a3 v15
set_option maxRecDepth 100000 in
theorem c_M_nextChange (σ : MS) (p0 : Int32) : Ct z (wM z τ) rI eqA yX11_nextChange cX11_nextChange 4 (some .int) 1 0 0 [.ref 0, .int p0] σ ((M_nextChange σ p0).map fun r => (r, σ)) := by
  refine Ct.of (by decide) (Nat.le_of_ble_eq_true rfl) (fun ad x hC hR _ => ?_)
  show AT z x 4 (wM z τ) rI (eqA ad) 0 0 0 0 ad 0 [(0, .ref 0), (1, .int p0)] [] σ ((M_nextChange σ p0).map fun r => (r, σ))
  unfold M_nextChange
  refine at_sipush hC si_10000 dX11_nextChange_0 ?_
  refine at_istore_n (lv' := [(2, .int 10000), (0, .ref 0), (1, .int p0)]) hC rfl dX11_nextChange_3 (by decide) rfl ?_
  refine at_iconst hC ic_0 dX11_nextChange_4 ?_
  refine at_istore_n (lv' := [(3, .int 0), (2, .int 10000), (0, .ref 0), (1, .int p0)]) hC rfl dX11_nextChange_5 (by decide) rfl ?_
  refine at_drop (lv' := [(0, .ref 0), (1, .int p0), (2, .int 10000), (3, .int 0)]) [2, 3, 1, 0] rfl ?_
  exact t_M_nextChange_L6 hC hR σ 100000 p0 10000 0
end G
