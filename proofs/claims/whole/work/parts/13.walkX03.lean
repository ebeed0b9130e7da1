section G
variable {z : ZZ} {x : XX} {ad : Nat → Nat} {σ : MS}
theorem dX4_howMany_0 : decode cX4_howMany 0 = .ok (.iconst 0, 1) := by decide +kernel
theorem dX4_howMany_1 : decode cX4_howMany 1 = .ok (.istore 4, 2) := by decide +kernel
theorem dX4_howMany_3 : decode cX4_howMany 3 = .ok (.aload_n 0, 1) := by decide +kernel
theorem dX4_howMany_4 : decode cX4_howMany 4 = .ok (.getfield 15, 3) := by decide +kernel
theorem dX4_howMany_7 : decode cX4_howMany 7 = .ok (.iload_n 1, 1) := by decide +kernel
theorem dX4_howMany_8 : decode cX4_howMany 8 = .ok (.iaload, 1) := by decide +kernel
theorem dX4_howMany_9 : decode cX4_howMany 9 = .ok (.istore 5, 2) := by decide +kernel
theorem dX4_howMany_11 : decode cX4_howMany 11 = .ok (.iload 5, 2) := by decide +kernel
theorem dX4_howMany_13 : decode cX4_howMany 13 = .ok (.aload_n 0, 1) := by decide +kernel
theorem dX4_howMany_14 : decode cX4_howMany 14 = .ok (.getfield 18, 3) := by decide +kernel
theorem dX4_howMany_17 : decode cX4_howMany 17 = .ok (.iload_n 1, 1) := by decide +kernel
theorem dX4_howMany_18 : decode cX4_howMany 18 = .ok (.iaload, 1) := by decide +kernel
theorem dX4_howMany_19 : decode cX4_howMany 19 = .ok (.if_icmp .ge 55, 3) := by decide +kernel
theorem dX4_howMany_22 : decode cX4_howMany 22 = .ok (.aload_n 0, 1) := by decide +kernel
theorem dX4_howMany_23 : decode cX4_howMany 23 = .ok (.getfield 21, 3) := by decide +kernel
theorem dX4_howMany_26 : decode cX4_howMany 26 = .ok (.iload 5, 2) := by decide +kernel
theorem dX4_howMany_28 : decode cX4_howMany 28 = .ok (.iaload, 1) := by decide +kernel
theorem dX4_howMany_29 : decode cX4_howMany 29 = .ok (.istore 6, 2) := by decide +kernel
theorem dX4_howMany_31 : decode cX4_howMany 31 = .ok (.aload_n 0, 1) := by decide +kernel
theorem dX4_howMany_32 : decode cX4_howMany 32 = .ok (.getfield 24, 3) := by decide +kernel
theorem dX4_howMany_35 : decode cX4_howMany 35 = .ok (.getfield 50, 3) := by decide +kernel
theorem dX4_howMany_38 : decode cX4_howMany 38 = .ok (.iload 6, 2) := by decide +kernel
theorem dX4_howMany_40 : decode cX4_howMany 40 = .ok (.iaload, 1) := by decide +kernel
theorem dX4_howMany_41 : decode cX4_howMany 41 = .ok (.iload_n 2, 1) := by decide +kernel
theorem dX4_howMany_42 : decode cX4_howMany 42 = .ok (.if_icmp .le 6, 3) := by decide +kernel
theorem dX4_howMany_45 : decode cX4_howMany 45 = .ok (.goto 29, 3) := by decide +kernel
theorem dX4_howMany_48 : decode cX4_howMany 48 = .ok (.iload_n 3, 1) := by decide +kernel
theorem dX4_howMany_49 : decode cX4_howMany 49 = .ok (.aload_n 0, 1) := by decide +kernel
theorem dX4_howMany_50 : decode cX4_howMany 50 = .ok (.getfield 24, 3) := by decide +kernel
theorem dX4_howMany_53 : decode cX4_howMany 53 = .ok (.getfield 44, 3) := by decide +kernel
theorem dX4_howMany_56 : decode cX4_howMany 56 = .ok (.iload 6, 2) := by decide +kernel
theorem dX4_howMany_58 : decode cX4_howMany 58 = .ok (.iaload, 1) := by decide +kernel
theorem dX4_howMany_59 : decode cX4_howMany 59 = .ok (.ishr, 1) := by decide +kernel
theorem dX4_howMany_60 : decode cX4_howMany 60 = .ok (.iconst 1, 1) := by decide +kernel
theorem dX4_howMany_61 : decode cX4_howMany 61 = .ok (.iand, 1) := by decide +kernel
theorem dX4_howMany_62 : decode cX4_howMany 62 = .ok (.ifCond .eq 6, 3) := by decide +kernel
theorem dX4_howMany_65 : decode cX4_howMany 65 = .ok (.iinc 4 1, 3) := by decide +kernel
theorem dX4_howMany_68 : decode cX4_howMany 68 = .ok (.iinc 5 1, 3) := by decide +kernel
theorem dX4_howMany_71 : decode cX4_howMany 71 = .ok (.goto (-60), 3) := by decide +kernel
theorem dX4_howMany_74 : decode cX4_howMany 74 = .ok (.iload 4, 2) := by decide +kernel
theorem dX4_howMany_76 : decode cX4_howMany 76 = .ok (.ireturn, 1) := by decide +kernel
set_option maxRecDepth 100000 in
theorem t_Lv_howMany_J68 (hC : CX z ad x cX4_howMany RX4 7 (some .int)) (hR : x.2.2.1 = rmk 1 0 0) (τ : XS) (k_11 : Int32 → Int32 → Int32 → Int32 → Int32 → Option Int32) (hk_11 : ∀ (a1 : Int32) (a2 : Int32) (a3 : Int32) (a4 : Int32) (a5 : Int32), AT z x 7 (wX z σ) rI (eqA ad) 0 0 0 0 ad 11 [(0, .ref 49), (1, .int a1), (2, .int a2), (3, .int a3), (4, .int a4), (5, .int a5)] [] τ ((k_11 a1 a2 a3 a4 a5).map fun r => (r, τ))) (a1 : Int32) (a2 : Int32) (a3 : Int32) (a4 : Int32) (a5 : Int32) : AT z x 7 (wX z σ) rI (eqA ad) 0 0 0 0 ad 68 [(0, .ref 49), (1, .int a1), (2, .int a2), (3, .int a3), (4, .int a4), (5, .int a5)] [] τ ((Lv_howMany_J68 k_11 τ a1 a2 a3 a4 a5).map fun r => (r, τ)) := by
  unfold Lv_howMany_J68
  refine at_iinc (j := 5) (v := a5 + 1) (lv' := [(5, .int (a5 + 1)), (0, .ref 49), (1, .int a1), (2, .int a2), (3, .int a3), (4, .int a4)]) hC dX4_howMany_68 rfl rfl (by decide) rfl ?_
  refine at_goto (tgt := 11) hC dX4_howMany_71 rfl ?_
  refine at_drop (lv' := [(0, .ref 49), (1, .int a1), (2, .int a2), (3, .int a3), (4, .int a4), (5, .int (a5 + 1))]) [1, 2, 3, 4, 5, 0] rfl ?_
  exact hk_11 a1 a2 a3 a4 (a5 + 1)
set_option maxRecDepth 100000 in
theorem t_Lv_howMany_L11 (hC : CX z ad x cX4_howMany RX4 7 (some .int)) (hR : x.2.2.1 = rmk 1 0 0) (τ : XS) (n : Nat) (a1 : Int32) (a2 : Int32) (a3 : Int32) (a4 : Int32) (a5 : Int32) : AT z x 7 (wX z σ) rI (eqA ad) 0 0 0 0 ad 11 [(0, .ref 49), (1, .int a1), (2, .int a2), (3, .int a3), (4, .int a4), (5, .int a5)] [] τ ((Lv_howMany_L11 n τ a1 a2 a3 a4 a5).map fun r => (r, τ)) := by
  revert a1 a2 a3 a4 a5
  show ∀ (a1 : Int32) (a2 : Int32) (a3 : Int32) (a4 : Int32) (a5 : Int32), AT z x 7 (wX z σ) rI (eqA ad) 0 0 0 0 ad 11 [(0, .ref 49), (1, .int a1), (2, .int a2), (3, .int a3), (4, .int a4), (5, .int a5)] [] τ ((Lv_howMany_L11_r τ n a1 a2 a3 a4 a5).map fun r => (r, τ))
  induction n with
  | zero => intro a1 a2 a3 a4 a5; exact ap_none
  | succ n hk_11 =>
    intro a1 a2 a3 a4 a5
    unfold Lv_howMany_L11_r
    refine at_iload (j := 5) hC rfl dX4_howMany_11 ?_
    refine at_aload_n (j := 0) hC rfl rfl dX4_howMany_13 ?_
    refine gf_X4_18 hC dX4_howMany_14 ?_
    refine at_iload_n (j := 1) hC rfl rfl dX4_howMany_17 ?_
    refine ap_iald hC 52 dX4_howMany_18 cl_52 (fun v2 => ?_)
    refine ap_icmp_ge (tgt := 74) hC dX4_howMany_19 rfl (fun _ => ?_) (fun _ => ?_)
    · refine at_iload (j := 4) hC rfl dX4_howMany_74 ?_
      exact at_iret (F := eqA ad) (ra := rI) hC dX4_howMany_76 rfl (Nat.le_refl 0) (Nat.le_refl 0) rfl
    · refine at_aload_n (j := 0) hC rfl rfl dX4_howMany_22 ?_
      refine gf_X4_21 hC dX4_howMany_23 ?_
      refine at_iload (j := 5) hC rfl dX4_howMany_26 ?_
      refine ap_iald hC 53 dX4_howMany_28 cl_53 (fun v3 => ?_)
      refine at_istore (lv' := [(6, .int v3), (0, .ref 49), (1, .int a1), (2, .int a2), (3, .int a3), (4, .int a4), (5, .int a5)]) hC dX4_howMany_29 (by decide) rfl ?_
      refine at_aload_n (j := 1) hC rfl rfl dX4_howMany_31 ?_
      refine gf_X4_24 hC dX4_howMany_32 ?_
      refine gf_X4_50 hC dX4_howMany_35 ?_
      refine at_iload (j := 0) hC rfl dX4_howMany_38 ?_
      refine ap_iald hC 45 dX4_howMany_40 cl_45 (fun v4 => ?_)
      refine at_iload_n (j := 3) hC rfl rfl dX4_howMany_41 ?_
      refine ap_icmp_le (tgt := 48) hC dX4_howMany_42 rfl (fun _ => ?_) (fun _ => ?_)
      · refine at_iload_n (j := 4) hC rfl rfl dX4_howMany_48 ?_
        refine at_aload_n (j := 1) hC rfl rfl dX4_howMany_49 ?_
        refine gf_X4_24 hC dX4_howMany_50 ?_
        refine gf_X4_44 hC dX4_howMany_53 ?_
        refine at_iload (j := 0) hC rfl dX4_howMany_56 ?_
        refine ap_iald hC 42 dX4_howMany_58 cl_42 (fun v5 => ?_)
        refine at_ishr hC dX4_howMany_59 ?_
        refine at_iconst hC ic_1 dX4_howMany_60 ?_
        refine at_iand hC dX4_howMany_61 ?_
        refine ap_if_eq (tgt := 68) hC dX4_howMany_62 rfl (fun _ => ?_) (fun _ => ?_)
        · refine at_drop (lv' := [(0, .ref 49), (1, .int a1), (2, .int a2), (3, .int a3), (4, .int a4), (5, .int a5)]) [1, 2, 3, 4, 5, 6] rfl ?_
          exact t_Lv_howMany_J68 hC hR τ (Lv_howMany_L11_r τ n) hk_11 a1 a2 a3 a4 a5
        · refine at_iinc (j := 5) (v := a4 + 1) (lv' := [(4, .int (a4 + 1)), (6, .int v3), (0, .ref 49), (1, .int a1), (2, .int a2), (3, .int a3), (5, .int a5)]) hC dX4_howMany_65 rfl rfl (by decide) rfl ?_
          refine at_drop (lv' := [(0, .ref 49), (1, .int a1), (2, .int a2), (3, .int a3), (4, .int (a4 + 1)), (5, .int a5)]) [2, 3, 4, 5, 0, 6] rfl ?_
          exact t_Lv_howMany_J68 hC hR τ (Lv_howMany_L11_r τ n) hk_11 a1 a2 a3 (a4 + 1) a5
      · refine at_goto (tgt := 74) hC dX4_howMany_45 rfl ?_
        refine at_iload (j := 5) hC rfl dX4_howMany_74 ?_
        exact at_iret (F := eqA ad) (ra := rI) hC dX4_howMany_76 rfl (Nat.le_refl 0) (Nat.le_refl 0) rfl
set_option maxRecDepth 100000 in
theorem c_Lv_howMany (τ : XS) (p0 : Int32) (p1 : Int32) (p2 : Int32) : Ct z (wX z σ) rI eqA yX4_howMany cX4_howMany 7 (some .int) 1 0 0 [.ref 49, .int p0, .int p1, .int p2] τ ((Lv_howMany τ p0 p1 p2).map fun r => (r, τ)) := by
  refine Ct.of (by decide) (Nat.le_of_ble_eq_true rfl) (fun ad x hC hR _ => ?_)
  show AT z x 7 (wX z σ) rI (eqA ad) 0 0 0 0 ad 0 [(0, .ref 49), (1, .int p0), (2, .int p1), (3, .int p2)] [] τ ((Lv_howMany τ p0 p1 p2).map fun r => (r, τ))
  unfold Lv_howMany
  refine at_iconst hC ic_0 dX4_howMany_0 ?_
  refine at_istore (lv' := [(4, .int 0), (0, .ref 49), (1, .int p0), (2, .int p1), (3, .int p2)]) hC dX4_howMany_1 (by decide) rfl ?_
  refine at_aload_n (j := 1) hC rfl rfl dX4_howMany_3 ?_
  refine gf_X4_15 hC dX4_howMany_4 ?_
  refine at_iload_n (j := 2) hC rfl rfl dX4_howMany_7 ?_
  refine ap_iald hC 51 dX4_howMany_8 cl_51 (fun v1 => ?_)
  refine at_istore (lv' := [(5, .int v1), (4, .int 0), (0, .ref 49), (1, .int p0), (2, .int p1), (3, .int p2)]) hC dX4_howMany_9 (by decide) rfl ?_
  refine at_drop (lv' := [(0, .ref 49), (1, .int p0), (2, .int p1), (3, .int p2), (4, .int 0), (5, .int v1)]) [2, 3, 4, 5, 1, 0] rfl ?_
  exact t_Lv_howMany_L11 hC hR τ 100000 p0 p1 p2 0 v1
theorem dX3_nameFor_0 : decode cX3_nameFor 0 = .ok (.aload_n 0, 1) := by decide +kernel
theorem dX3_nameFor_1 : decode cX3_nameFor 1 = .ok (.getfield 21, 3) := by decide +kernel
theorem dX3_nameFor_4 : decode cX3_nameFor 4 = .ok (.iconst 0, 1) := by decide +kernel
theorem dX3_nameFor_5 : decode cX3_nameFor 5 = .ok (.invokestatic 51, 3) := by decide +kernel
theorem dX3_nameFor_8 : decode cX3_nameFor 8 = .ok (.aload_n 0, 1) := by decide +kernel
theorem dX3_nameFor_9 : decode cX3_nameFor 9 = .ok (.getfield 21, 3) := by decide +kernel
theorem dX3_nameFor_12 : decode cX3_nameFor 12 = .ok (.iconst 4, 1) := by decide +kernel
theorem dX3_nameFor_13 : decode cX3_nameFor 13 = .ok (.iload_n 3, 1) := by decide +kernel
theorem dX3_nameFor_14 : decode cX3_nameFor 14 = .ok (.bipush 100, 2) := by decide +kernel
theorem dX3_nameFor_16 : decode cX3_nameFor 16 = .ok (.idiv, 1) := by decide +kernel
theorem dX3_nameFor_17 : decode cX3_nameFor 17 = .ok (.iastore, 1) := by decide +kernel
theorem dX3_nameFor_18 : decode cX3_nameFor 18 = .ok (.aload_n 0, 1) := by decide +kernel
theorem dX3_nameFor_19 : decode cX3_nameFor 19 = .ok (.getfield 27, 3) := by decide +kernel
theorem dX3_nameFor_22 : decode cX3_nameFor 22 = .ok (.iload_n 2, 1) := by decide +kernel
theorem dX3_nameFor_23 : decode cX3_nameFor 23 = .ok (.invokevirtual 57, 3) := by decide +kernel
theorem dX3_nameFor_26 : decode cX3_nameFor 26 = .ok (.ifCond .ne 4, 3) := by decide +kernel
theorem dX3_nameFor_29 : decode cX3_nameFor 29 = .ok (.return_, 1) := by decide +kernel
theorem dX3_nameFor_30 : decode cX3_nameFor 30 = .ok (.aload_n 1, 1) := by decide +kernel
theorem dX3_nameFor_31 : decode cX3_nameFor 31 = .ok (.iload_n 2, 1) := by decide +kernel
theorem dX3_nameFor_32 : decode cX3_nameFor 32 = .ok (.iload_n 3, 1) := by decide +kernel
theorem dX3_nameFor_33 : decode cX3_nameFor 33 = .ok (.iconst 4, 1) := by decide +kernel
theorem dX3_nameFor_34 : decode cX3_nameFor 34 = .ok (.invokevirtual 63, 3) := by decide +kernel
theorem dX3_nameFor_37 : decode cX3_nameFor 37 = .ok (.istore 4, 2) := by decide +kernel
theorem dX3_nameFor_39 : decode cX3_nameFor 39 = .ok (.aload_n 0, 1) := by decide +kernel
theorem dX3_nameFor_40 : decode cX3_nameFor 40 = .ok (.getfield 21, 3) := by decide +kernel
theorem dX3_nameFor_43 : decode cX3_nameFor 43 = .ok (.iconst 0, 1) := by decide +kernel
theorem dX3_nameFor_44 : decode cX3_nameFor 44 = .ok (.iconst 0, 1) := by decide +kernel
theorem dX3_nameFor_45 : decode cX3_nameFor 45 = .ok (.aload_n 1, 1) := by decide +kernel
theorem dX3_nameFor_46 : decode cX3_nameFor 46 = .ok (.iload_n 2, 1) := by decide +kernel
theorem dX3_nameFor_47 : decode cX3_nameFor 47 = .ok (.iload_n 3, 1) := by decide +kernel
theorem dX3_nameFor_48 : decode cX3_nameFor 48 = .ok (.invokevirtual 69, 3) := by decide +kernel
theorem dX3_nameFor_51 : decode cX3_nameFor 51 = .ok (.invokestatic 73, 3) := by decide +kernel
theorem dX3_nameFor_54 : decode cX3_nameFor 54 = .ok (.iastore, 1) := by decide +kernel
theorem dX3_nameFor_55 : decode cX3_nameFor 55 = .ok (.aload_n 0, 1) := by decide +kernel
theorem dX3_nameFor_56 : decode cX3_nameFor 56 = .ok (.getfield 21, 3) := by decide +kernel
theorem dX3_nameFor_59 : decode cX3_nameFor 59 = .ok (.iconst 1, 1) := by decide +kernel
theorem dX3_nameFor_60 : decode cX3_nameFor 60 = .ok (.iload 4, 2) := by decide +kernel
theorem dX3_nameFor_62 : decode cX3_nameFor 62 = .ok (.ifCond .ge 7, 3) := by decide +kernel
theorem dX3_nameFor_65 : decode cX3_nameFor 65 = .ok (.iconst 0, 1) := by decide +kernel
theorem dX3_nameFor_66 : decode cX3_nameFor 66 = .ok (.goto 18, 3) := by decide +kernel
theorem dX3_nameFor_69 : decode cX3_nameFor 69 = .ok (.iload_n 3, 1) := by decide +kernel
theorem dX3_nameFor_70 : decode cX3_nameFor 70 = .ok (.aload_n 0, 1) := by decide +kernel
theorem dX3_nameFor_71 : decode cX3_nameFor 71 = .ok (.getfield 27, 3) := by decide +kernel
theorem dX3_nameFor_74 : decode cX3_nameFor 74 = .ok (.getfield 78, 3) := by decide +kernel
theorem dX3_nameFor_77 : decode cX3_nameFor 77 = .ok (.iload 4, 2) := by decide +kernel
theorem dX3_nameFor_79 : decode cX3_nameFor 79 = .ok (.iaload, 1) := by decide +kernel
theorem dX3_nameFor_80 : decode cX3_nameFor 80 = .ok (.isub, 1) := by decide +kernel
theorem dX3_nameFor_81 : decode cX3_nameFor 81 = .ok (.bipush 100, 2) := by decide +kernel
theorem dX3_nameFor_83 : decode cX3_nameFor 83 = .ok (.idiv, 1) := by decide +kernel
theorem dX3_nameFor_84 : decode cX3_nameFor 84 = .ok (.iastore, 1) := by decide +kernel
theorem dX3_nameFor_85 : decode cX3_nameFor 85 = .ok (.aload_n 0, 1) := by decide +kernel
theorem dX3_nameFor_86 : decode cX3_nameFor 86 = .ok (.getfield 21, 3) := by decide +kernel
theorem dX3_nameFor_89 : decode cX3_nameFor 89 = .ok (.iconst 2, 1) := by decide +kernel
theorem dX3_nameFor_90 : decode cX3_nameFor 90 = .ok (.aload_n 0, 1) := by decide +kernel
theorem dX3_nameFor_91 : decode cX3_nameFor 91 = .ok (.getfield 27, 3) := by decide +kernel
theorem dX3_nameFor_94 : decode cX3_nameFor 94 = .ok (.iload_n 2, 1) := by decide +kernel
theorem dX3_nameFor_95 : decode cX3_nameFor 95 = .ok (.iload_n 3, 1) := by decide +kernel
theorem dX3_nameFor_96 : decode cX3_nameFor 96 = .ok (.invokevirtual 80, 3) := by decide +kernel
theorem dX3_nameFor_99 : decode cX3_nameFor 99 = .ok (.iastore, 1) := by decide +kernel
theorem dX3_nameFor_100 : decode cX3_nameFor 100 = .ok (.aload_n 0, 1) := by decide +kernel
theorem dX3_nameFor_101 : decode cX3_nameFor 101 = .ok (.getfield 21, 3) := by decide +kernel
theorem dX3_nameFor_104 : decode cX3_nameFor 104 = .ok (.iconst 3, 1) := by decide +kernel
theorem dX3_nameFor_105 : decode cX3_nameFor 105 = .ok (.aload_n 1, 1) := by decide +kernel
theorem dX3_nameFor_106 : decode cX3_nameFor 106 = .ok (.iload_n 2, 1) := by decide +kernel
theorem dX3_nameFor_107 : decode cX3_nameFor 107 = .ok (.iload_n 3, 1) := by decide +kernel
theorem dX3_nameFor_108 : decode cX3_nameFor 108 = .ok (.iconst 2, 1) := by decide +kernel
theorem dX3_nameFor_109 : decode cX3_nameFor 109 = .ok (.invokevirtual 83, 3) := by decide +kernel
theorem dX3_nameFor_112 : decode cX3_nameFor 112 = .ok (.iastore, 1) := by decide +kernel
theorem dX3_nameFor_113 : decode cX3_nameFor 113 = .ok (.return_, 1) := by decide +kernel
set_option maxRecDepth 100000 in
theorem t_Lw_nameFor_J84 (hC : CX z ad x cX3_nameFor RX3 5 none) (hR : x.2.2.1 = rmk 6 0 0) (τ : XS) (a2 : Int32) (a3 : Int32) (s0 : Int32) (s1 : Int32) : AT z x 5 (wX z σ) rU (eqA ad) 0 0 0 0 ad 84 [(0, .ref 57), (1, .ref 49), (2, .int a2), (3, .int a3)] [.int s0, .int s1, .ref 60] τ (Lw_nameFor_J84 τ a2 a3 s0 s1) := by
  unfold Lw_nameFor_J84
  refine at_iast hC 60 dX3_nameFor_84 cl_60 st_60 ?_
  refine at_aload_n (j := 0) hC rfl rfl dX3_nameFor_85 ?_
  refine gf_X3_21 hC dX3_nameFor_86 ?_
  refine at_iconst hC ic_2 dX3_nameFor_89 ?_
  refine at_aload_n (j := 0) hC rfl rfl dX3_nameFor_90 ?_
  refine gf_X3_27 hC dX3_nameFor_91 ?_
  refine at_iload_n (j := 2) hC rfl rfl dX3_nameFor_94 ?_
  refine at_iload_n (j := 3) hC rfl rfl dX3_nameFor_95 ?_
  refine at_callVpI hC hR lk_X3_80 (c_Bk_ageOn (xA τ 305 (upd (τ.2.1 305) s1.toNatClampNeg s0)) a2 a3) dX3_nameFor_96 recX1 rfl rfl ⟨by decide, by decide⟩ (Nat.le_of_ble_eq_true rfl) ⟨Nat.le_refl 0, Nat.le_refl 0⟩ (fun r6 _ => ?_)
  refine at_iast hC 60 dX3_nameFor_99 cl_60 st_60 ?_
  refine at_aload_n (j := 0) hC rfl rfl dX3_nameFor_100 ?_
  refine gf_X3_21 hC dX3_nameFor_101 ?_
  refine at_iconst hC ic_3 dX3_nameFor_104 ?_
  refine at_aload_n (j := 1) hC rfl rfl dX3_nameFor_105 ?_
  refine at_iload_n (j := 2) hC rfl rfl dX3_nameFor_106 ?_
  refine at_iload_n (j := 3) hC rfl rfl dX3_nameFor_107 ?_
  refine at_iconst hC ic_2 dX3_nameFor_108 ?_
  refine at_callVpI hC hR lk_X3_83 (c_Lv_howMany (xA (xA τ 305 (upd (τ.2.1 305) s1.toNatClampNeg s0)) 305 (upd ((xA τ 305 (upd (τ.2.1 305) s1.toNatClampNeg s0)).2.1 305) (2 : Int32).toNatClampNeg r6)) a2 a3 2) dX3_nameFor_109 recX4 rfl rfl ⟨by decide, by decide⟩ (Nat.le_of_ble_eq_true rfl) ⟨Nat.le_refl 0, Nat.le_refl 0⟩ (fun r7 _ => ?_)
  refine at_iast hC 60 dX3_nameFor_112 cl_60 st_60 ?_
  exact at_vret (F := eqA ad) (ra := rU) hC dX3_nameFor_113 rfl (Nat.le_refl 0) (Nat.le_refl 0) rfl
set_option maxRecDepth 100000 in
theorem c_Lw_nameFor (τ : XS) (p1 : Int32) (p2 : Int32) : Ct z (wX z σ) rU eqA yX3_nameFor cX3_nameFor 5 none 6 0 0 [.ref 57, .ref 49, .int p1, .int p2] τ (Lw_nameFor τ p1 p2) := by
  refine Ct.of (by decide) (Nat.le_of_ble_eq_true rfl) (fun ad x hC hR _ => ?_)
  show AT z x 5 (wX z σ) rU (eqA ad) 0 0 0 0 ad 0 [(0, .ref 57), (1, .ref 49), (2, .int p1), (3, .int p2)] [] τ (Lw_nameFor τ p1 p2)
  unfold Lw_nameFor
  refine at_aload_n (j := 0) hC rfl rfl dX3_nameFor_0 ?_
  refine gf_X3_21 hC dX3_nameFor_1 ?_
  refine at_iconst hC ic_0 dX3_nameFor_4 ?_
  refine at_fill (f := τ.2.1 305) (mk := fun f => xA τ 305 f) (N := 5) (q := 60) hC hR lk_X3_51 dX3_nameFor_5 (fun ad => cl_60) (fun ad g => st_60) (fun ad f => cl_60) (fun ad f g => st_u60) (by decide) (by decide) (Nat.le_of_ble_eq_true rfl) ⟨Nat.le_refl 0, Nat.le_refl 0⟩ ?_
  refine at_aload_n (j := 0) hC rfl rfl dX3_nameFor_8 ?_
  refine gf_X3_21 hC dX3_nameFor_9 ?_
  refine at_iconst hC ic_4 dX3_nameFor_12 ?_
  refine at_iload_n (j := 3) hC rfl rfl dX3_nameFor_13 ?_
  refine at_bipush hC bi_100 dX3_nameFor_14 ?_
  refine at_idiv hC (by decide) dX3_nameFor_16 ?_
  refine at_iast hC 60 dX3_nameFor_17 cl_60 st_60 ?_
  refine at_aload_n (j := 0) hC rfl rfl dX3_nameFor_18 ?_
  refine gf_X3_27 hC dX3_nameFor_19 ?_
  refine at_iload_n (j := 2) hC rfl rfl dX3_nameFor_22 ?_
  refine at_callVpI hC hR lk_X3_57 (c_Bk_isPerson (xA (xA τ 305 (fillF 5 0 (τ.2.1 305))) 305 (upd ((xA τ 305 (fillF 5 0 (τ.2.1 305))).2.1 305) (4 : Int32).toNatClampNeg (p2 / 100))) p1) dX3_nameFor_23 recX1 rfl rfl ⟨by decide, by decide⟩ (Nat.le_of_ble_eq_true rfl) ⟨Nat.le_refl 0, Nat.le_refl 0⟩ (fun r1 _ => ?_)
  refine at_if_ne (tgt := 30) hC dX3_nameFor_26 rfl (fun _ => ?_) (fun _ => ?_)
  · refine at_aload_n (j := 1) hC rfl rfl dX3_nameFor_30 ?_
    refine at_iload_n (j := 2) hC rfl rfl dX3_nameFor_31 ?_
    refine at_iload_n (j := 3) hC rfl rfl dX3_nameFor_32 ?_
    refine at_iconst hC ic_4 dX3_nameFor_33 ?_
    refine at_callVpI hC hR lk_X3_63 (c_Lv_firstOf (xA (xA τ 305 (fillF 5 0 (τ.2.1 305))) 305 (upd ((xA τ 305 (fillF 5 0 (τ.2.1 305))).2.1 305) (4 : Int32).toNatClampNeg (p2 / 100))) p1 p2 4) dX3_nameFor_34 recX4 rfl rfl ⟨by decide, by decide⟩ (Nat.le_of_ble_eq_true rfl) ⟨Nat.le_refl 0, Nat.le_refl 0⟩ (fun r2 _ => ?_)
    refine at_istore (lv' := [(4, .int r2), (0, .ref 57), (1, .ref 49), (2, .int p1), (3, .int p2)]) hC dX3_nameFor_37 (by decide) rfl ?_
    refine at_aload_n (j := 1) hC rfl rfl dX3_nameFor_39 ?_
    refine gf_X3_21 hC dX3_nameFor_40 ?_
    refine at_iconst hC ic_0 dX3_nameFor_43 ?_
    refine at_iconst hC ic_0 dX3_nameFor_44 ?_
    refine at_aload_n (j := 2) hC rfl rfl dX3_nameFor_45 ?_
    refine at_iload_n (j := 3) hC rfl rfl dX3_nameFor_46 ?_
    refine at_iload_n (j := 4) hC rfl rfl dX3_nameFor_47 ?_
    refine at_callVpI hC hR lk_X3_69 (c_Lv_rateOf (xA (xA τ 305 (fillF 5 0 (τ.2.1 305))) 305 (upd ((xA τ 305 (fillF 5 0 (τ.2.1 305))).2.1 305) (4 : Int32).toNatClampNeg (p2 / 100))) p1 p2) dX3_nameFor_48 recX4 rfl rfl ⟨by decide, by decide⟩ (Nat.le_of_ble_eq_true rfl) ⟨Nat.le_refl 0, Nat.le_refl 0⟩ (fun r3 _ => ?_)
    refine at_mxI hC hR lkm_X3_73 dX3_nameFor_51 (by decide) (Nat.le_of_ble_eq_true rfl) ⟨Nat.le_refl 0, Nat.le_refl 0⟩ ?_
    refine at_iast hC 60 dX3_nameFor_54 cl_60 st_60 ?_
    refine at_aload_n (j := 1) hC rfl rfl dX3_nameFor_55 ?_
    refine gf_X3_21 hC dX3_nameFor_56 ?_
    refine at_iconst hC ic_1 dX3_nameFor_59 ?_
    refine at_iload (j := 0) hC rfl dX3_nameFor_60 ?_
    refine at_if_ge (tgt := 69) hC dX3_nameFor_62 rfl (fun _ => ?_) (fun _ => ?_)
    · refine at_iload_n (j := 4) hC rfl rfl dX3_nameFor_69 ?_
      refine at_aload_n (j := 1) hC rfl rfl dX3_nameFor_70 ?_
      refine gf_X3_27 hC dX3_nameFor_71 ?_
      refine gf_X3_78 hC dX3_nameFor_74 ?_
      refine at_iload (j := 0) hC rfl dX3_nameFor_77 ?_
      refine at_iald hC 45 dX3_nameFor_79 cl_45 (fun v5 => ?_)
      refine at_isub hC dX3_nameFor_80 ?_
      refine at_bipush hC bi_100 dX3_nameFor_81 ?_
      refine at_idiv hC (by decide) dX3_nameFor_83 ?_
      refine at_drop (lv' := [(0, .ref 57), (1, .ref 49), (2, .int p1), (3, .int p2)]) [1, 2, 3, 4] rfl ?_
      exact t_Lw_nameFor_J84 hC hR (xA (xA (xA τ 305 (fillF 5 0 (τ.2.1 305))) 305 (upd ((xA τ 305 (fillF 5 0 (τ.2.1 305))).2.1 305) (4 : Int32).toNatClampNeg (p2 / 100))) 305 (upd ((xA (xA τ 305 (fillF 5 0 (τ.2.1 305))) 305 (upd ((xA τ 305 (fillF 5 0 (τ.2.1 305))).2.1 305) (4 : Int32).toNatClampNeg (p2 / 100))).2.1 305) (0 : Int32).toNatClampNeg (mxI 0 r3))) p1 p2 ((p2 - v5) / 100) 1
    · refine at_iconst hC ic_0 dX3_nameFor_65 ?_
      refine at_goto (tgt := 84) hC dX3_nameFor_66 rfl ?_
      refine at_drop (lv' := [(0, .ref 57), (1, .ref 49), (2, .int p1), (3, .int p2)]) [1, 2, 3, 4] rfl ?_
      exact t_Lw_nameFor_J84 hC hR (xA (xA (xA τ 305 (fillF 5 0 (τ.2.1 305))) 305 (upd ((xA τ 305 (fillF 5 0 (τ.2.1 305))).2.1 305) (4 : Int32).toNatClampNeg (p2 / 100))) 305 (upd ((xA (xA τ 305 (fillF 5 0 (τ.2.1 305))) 305 (upd ((xA τ 305 (fillF 5 0 (τ.2.1 305))).2.1 305) (4 : Int32).toNatClampNeg (p2 / 100))).2.1 305) (0 : Int32).toNatClampNeg (mxI 0 r3))) p1 p2 0 1
  · exact at_vret (F := eqA ad) (ra := rU) hC dX3_nameFor_29 rfl (Nat.le_refl 0) (Nat.le_refl 0) rfl
theorem dX3_reckon_0 : decode cX3_reckon 0 = .ok (.iconst 0, 1) := by decide +kernel
theorem dX3_reckon_1 : decode cX3_reckon 1 = .ok (.istore 4, 2) := by decide +kernel
theorem dX3_reckon_3 : decode cX3_reckon 3 = .ok (.iload_n 2, 1) := by decide +kernel
theorem dX3_reckon_4 : decode cX3_reckon 4 = .ok (.istore 5, 2) := by decide +kernel
theorem dX3_reckon_6 : decode cX3_reckon 6 = .ok (.iload 5, 2) := by decide +kernel
theorem dX3_reckon_8 : decode cX3_reckon 8 = .ok (.iload_n 3, 1) := by decide +kernel
theorem dX3_reckon_9 : decode cX3_reckon 9 = .ok (.if_icmp .ge 214, 3) := by decide +kernel
theorem dX3_reckon_12 : decode cX3_reckon 12 = .ok (.aload_n 1, 1) := by decide +kernel
theorem dX3_reckon_13 : decode cX3_reckon 13 = .ok (.iload 5, 2) := by decide +kernel
theorem dX3_reckon_15 : decode cX3_reckon 15 = .ok (.iaload, 1) := by decide +kernel
theorem dX3_reckon_16 : decode cX3_reckon 16 = .ok (.istore 6, 2) := by decide +kernel
theorem dX3_reckon_18 : decode cX3_reckon 18 = .ok (.iload 6, 2) := by decide +kernel
theorem dX3_reckon_20 : decode cX3_reckon 20 = .ok (.bipush (-11), 2) := by decide +kernel
theorem dX3_reckon_22 : decode cX3_reckon 22 = .ok (.if_icmp .le 45, 3) := by decide +kernel
theorem dX3_reckon_25 : decode cX3_reckon 25 = .ok (.iload 4, 2) := by decide +kernel
theorem dX3_reckon_27 : decode cX3_reckon 27 = .ok (.sipush 200, 3) := by decide +kernel
theorem dX3_reckon_30 : decode cX3_reckon 30 = .ok (.if_icmp .lt 5, 3) := by decide +kernel
theorem dX3_reckon_33 : decode cX3_reckon 33 = .ok (.iconst 0, 1) := by decide +kernel
theorem dX3_reckon_34 : decode cX3_reckon 34 = .ok (.ireturn, 1) := by decide +kernel
theorem dX3_reckon_35 : decode cX3_reckon 35 = .ok (.aload_n 0, 1) := by decide +kernel
theorem dX3_reckon_36 : decode cX3_reckon 36 = .ok (.getfield 24, 3) := by decide +kernel
theorem dX3_reckon_39 : decode cX3_reckon 39 = .ok (.iload 4, 2) := by decide +kernel
theorem dX3_reckon_41 : decode cX3_reckon 41 = .ok (.iinc 4 1, 3) := by decide +kernel
theorem dX3_reckon_44 : decode cX3_reckon 44 = .ok (.iload 6, 2) := by decide +kernel
theorem dX3_reckon_46 : decode cX3_reckon 46 = .ok (.ifCond .lt 8, 3) := by decide +kernel
theorem dX3_reckon_49 : decode cX3_reckon 49 = .ok (.iload 6, 2) := by decide +kernel
theorem dX3_reckon_51 : decode cX3_reckon 51 = .ok (.goto 12, 3) := by decide +kernel
theorem dX3_reckon_54 : decode cX3_reckon 54 = .ok (.aload_n 0, 1) := by decide +kernel
theorem dX3_reckon_55 : decode cX3_reckon 55 = .ok (.getfield 21, 3) := by decide +kernel
theorem dX3_reckon_58 : decode cX3_reckon 58 = .ok (.iconst (-1), 1) := by decide +kernel
theorem dX3_reckon_59 : decode cX3_reckon 59 = .ok (.iload 6, 2) := by decide +kernel
theorem dX3_reckon_61 : decode cX3_reckon 61 = .ok (.isub, 1) := by decide +kernel
theorem dX3_reckon_62 : decode cX3_reckon 62 = .ok (.iaload, 1) := by decide +kernel
theorem dX3_reckon_63 : decode cX3_reckon 63 = .ok (.iastore, 1) := by decide +kernel
theorem dX3_reckon_64 : decode cX3_reckon 64 = .ok (.goto 153, 3) := by decide +kernel
theorem dX3_reckon_67 : decode cX3_reckon 67 = .ok (.iload 4, 2) := by decide +kernel
theorem dX3_reckon_69 : decode cX3_reckon 69 = .ok (.iconst 2, 1) := by decide +kernel
theorem dX3_reckon_70 : decode cX3_reckon 70 = .ok (.if_icmp .ge 5, 3) := by decide +kernel
theorem dX3_reckon_73 : decode cX3_reckon 73 = .ok (.iconst 0, 1) := by decide +kernel
theorem dX3_reckon_74 : decode cX3_reckon 74 = .ok (.ireturn, 1) := by decide +kernel
theorem dX3_reckon_75 : decode cX3_reckon 75 = .ok (.aload_n 0, 1) := by decide +kernel
theorem dX3_reckon_76 : decode cX3_reckon 76 = .ok (.getfield 24, 3) := by decide +kernel
theorem dX3_reckon_79 : decode cX3_reckon 79 = .ok (.iload 4, 2) := by decide +kernel
theorem dX3_reckon_81 : decode cX3_reckon 81 = .ok (.iconst 2, 1) := by decide +kernel
theorem dX3_reckon_82 : decode cX3_reckon 82 = .ok (.isub, 1) := by decide +kernel
theorem dX3_reckon_83 : decode cX3_reckon 83 = .ok (.iaload, 1) := by decide +kernel
theorem dX3_reckon_84 : decode cX3_reckon 84 = .ok (.istore 7, 2) := by decide +kernel
theorem dX3_reckon_86 : decode cX3_reckon 86 = .ok (.aload_n 0, 1) := by decide +kernel
theorem dX3_reckon_87 : decode cX3_reckon 87 = .ok (.getfield 24, 3) := by decide +kernel
theorem dX3_reckon_90 : decode cX3_reckon 90 = .ok (.iload 4, 2) := by decide +kernel
theorem dX3_reckon_92 : decode cX3_reckon 92 = .ok (.iconst 1, 1) := by decide +kernel
theorem dX3_reckon_93 : decode cX3_reckon 93 = .ok (.isub, 1) := by decide +kernel
theorem dX3_reckon_94 : decode cX3_reckon 94 = .ok (.iaload, 1) := by decide +kernel
theorem dX3_reckon_95 : decode cX3_reckon 95 = .ok (.istore 8, 2) := by decide +kernel
theorem dX3_reckon_97 : decode cX3_reckon 97 = .ok (.iinc 4 (-2), 3) := by decide +kernel
theorem dX3_reckon_100 : decode cX3_reckon 100 = .ok (.iload 6, 2) := by decide +kernel
theorem dX3_reckon_102 : decode cX3_reckon 102 = .ok (.tableswitch 106 (-15) (-11) #[97, 88, 70, 52, 34], 34) := by decide +kernel
theorem dX3_reckon_136 : decode cX3_reckon 136 = .ok (.aload_n 0, 1) := by decide +kernel
theorem dX3_reckon_137 : decode cX3_reckon 137 = .ok (.getfield 24, 3) := by decide +kernel
theorem dX3_reckon_140 : decode cX3_reckon 140 = .ok (.iload 4, 2) := by decide +kernel
theorem dX3_reckon_142 : decode cX3_reckon 142 = .ok (.iinc 4 1, 3) := by decide +kernel
theorem dX3_reckon_145 : decode cX3_reckon 145 = .ok (.iload 7, 2) := by decide +kernel
theorem dX3_reckon_147 : decode cX3_reckon 147 = .ok (.iload 8, 2) := by decide +kernel
theorem dX3_reckon_149 : decode cX3_reckon 149 = .ok (.iadd, 1) := by decide +kernel
theorem dX3_reckon_150 : decode cX3_reckon 150 = .ok (.iastore, 1) := by decide +kernel
theorem dX3_reckon_151 : decode cX3_reckon 151 = .ok (.goto 66, 3) := by decide +kernel
theorem dX3_reckon_154 : decode cX3_reckon 154 = .ok (.aload_n 0, 1) := by decide +kernel
theorem dX3_reckon_155 : decode cX3_reckon 155 = .ok (.getfield 24, 3) := by decide +kernel
theorem dX3_reckon_158 : decode cX3_reckon 158 = .ok (.iload 4, 2) := by decide +kernel
theorem dX3_reckon_160 : decode cX3_reckon 160 = .ok (.iinc 4 1, 3) := by decide +kernel
theorem dX3_reckon_163 : decode cX3_reckon 163 = .ok (.iload 7, 2) := by decide +kernel
theorem dX3_reckon_165 : decode cX3_reckon 165 = .ok (.iload 8, 2) := by decide +kernel
theorem dX3_reckon_167 : decode cX3_reckon 167 = .ok (.isub, 1) := by decide +kernel
theorem dX3_reckon_168 : decode cX3_reckon 168 = .ok (.iastore, 1) := by decide +kernel
theorem dX3_reckon_169 : decode cX3_reckon 169 = .ok (.goto 48, 3) := by decide +kernel
theorem dX3_reckon_172 : decode cX3_reckon 172 = .ok (.aload_n 0, 1) := by decide +kernel
theorem dX3_reckon_173 : decode cX3_reckon 173 = .ok (.getfield 24, 3) := by decide +kernel
theorem dX3_reckon_176 : decode cX3_reckon 176 = .ok (.iload 4, 2) := by decide +kernel
theorem dX3_reckon_178 : decode cX3_reckon 178 = .ok (.iinc 4 1, 3) := by decide +kernel
theorem dX3_reckon_181 : decode cX3_reckon 181 = .ok (.iload 7, 2) := by decide +kernel
theorem dX3_reckon_183 : decode cX3_reckon 183 = .ok (.iload 8, 2) := by decide +kernel
theorem dX3_reckon_185 : decode cX3_reckon 185 = .ok (.imul, 1) := by decide +kernel
theorem dX3_reckon_186 : decode cX3_reckon 186 = .ok (.iastore, 1) := by decide +kernel
theorem dX3_reckon_187 : decode cX3_reckon 187 = .ok (.goto 30, 3) := by decide +kernel
theorem dX3_reckon_190 : decode cX3_reckon 190 = .ok (.iload 7, 2) := by decide +kernel
theorem dX3_reckon_192 : decode cX3_reckon 192 = .ok (.iload 8, 2) := by decide +kernel
theorem dX3_reckon_194 : decode cX3_reckon 194 = .ok (.if_icmp .lt 23, 3) := by decide +kernel
theorem dX3_reckon_197 : decode cX3_reckon 197 = .ok (.iconst 0, 1) := by decide +kernel
theorem dX3_reckon_198 : decode cX3_reckon 198 = .ok (.ireturn, 1) := by decide +kernel
theorem dX3_reckon_199 : decode cX3_reckon 199 = .ok (.iload 7, 2) := by decide +kernel
theorem dX3_reckon_201 : decode cX3_reckon 201 = .ok (.iload 8, 2) := by decide +kernel
theorem dX3_reckon_203 : decode cX3_reckon 203 = .ok (.if_icmp .eq 14, 3) := by decide +kernel
theorem dX3_reckon_206 : decode cX3_reckon 206 = .ok (.iconst 0, 1) := by decide +kernel
theorem dX3_reckon_207 : decode cX3_reckon 207 = .ok (.ireturn, 1) := by decide +kernel
theorem dX3_reckon_208 : decode cX3_reckon 208 = .ok (.iload 7, 2) := by decide +kernel
theorem dX3_reckon_210 : decode cX3_reckon 210 = .ok (.iload 8, 2) := by decide +kernel
theorem dX3_reckon_212 : decode cX3_reckon 212 = .ok (.if_icmp .gt 5, 3) := by decide +kernel
theorem dX3_reckon_215 : decode cX3_reckon 215 = .ok (.iconst 0, 1) := by decide +kernel
theorem dX3_reckon_216 : decode cX3_reckon 216 = .ok (.ireturn, 1) := by decide +kernel
theorem dX3_reckon_217 : decode cX3_reckon 217 = .ok (.iinc 5 1, 3) := by decide +kernel
theorem dX3_reckon_220 : decode cX3_reckon 220 = .ok (.goto (-214), 3) := by decide +kernel
theorem dX3_reckon_223 : decode cX3_reckon 223 = .ok (.iload 4, 2) := by decide +kernel
theorem dX3_reckon_225 : decode cX3_reckon 225 = .ok (.ifCond .le 15, 3) := by decide +kernel
theorem dX3_reckon_228 : decode cX3_reckon 228 = .ok (.aload_n 0, 1) := by decide +kernel
theorem dX3_reckon_229 : decode cX3_reckon 229 = .ok (.getfield 24, 3) := by decide +kernel
theorem dX3_reckon_232 : decode cX3_reckon 232 = .ok (.iload 4, 2) := by decide +kernel
theorem dX3_reckon_234 : decode cX3_reckon 234 = .ok (.iconst 1, 1) := by decide +kernel
theorem dX3_reckon_235 : decode cX3_reckon 235 = .ok (.isub, 1) := by decide +kernel
theorem dX3_reckon_236 : decode cX3_reckon 236 = .ok (.iaload, 1) := by decide +kernel
theorem dX3_reckon_237 : decode cX3_reckon 237 = .ok (.goto 4, 3) := by decide +kernel
theorem dX3_reckon_240 : decode cX3_reckon 240 = .ok (.iconst 1, 1) := by decide +kernel
theorem dX3_reckon_241 : decode cX3_reckon 241 = .ok (.ireturn, 1) := by decide +kernel
set_option maxRecDepth 100000 in
theorem t_Lw_reckon_J217 (hC : CX z ad x cX3_reckon RX3 9 (some .int)) (hR : x.2.2.1 = rmk 1 0 0) (k_6 : XS → Nat → Int32 → Int32 → Int32 → Option (Int32 × XS)) (hk_6 : ∀ (τ : XS) (a1 : Nat) (a3 : Int32) (a4 : Int32) (a5 : Int32), AT z x 9 (wX z σ) rI (eqA ad) 0 0 0 0 ad 6 [(0, .ref 57), (1, .ref (80 + 7 * a1 + 6)), (3, .int a3), (4, .int a4), (5, .int a5)] [] τ (k_6 τ a1 a3 a4 a5)) (τ : XS) (a1 : Nat) (a3 : Int32) (a4 : Int32) (a5 : Int32) : AT z x 9 (wX z σ) rI (eqA ad) 0 0 0 0 ad 217 [(0, .ref 57), (1, .ref (80 + 7 * a1 + 6)), (3, .int a3), (4, .int a4), (5, .int a5)] [] τ (Lw_reckon_J217 k_6 τ a1 a3 a4 a5) := by
  unfold Lw_reckon_J217
  refine at_iinc (j := 4) (v := a5 + 1) (lv' := [(5, .int (a5 + 1)), (0, .ref 57), (1, .ref (80 + 7 * a1 + 6)), (3, .int a3), (4, .int a4)]) hC dX3_reckon_217 rfl rfl (by decide) rfl ?_
  refine at_goto (tgt := 6) hC dX3_reckon_220 rfl ?_
  refine at_drop (lv' := [(0, .ref 57), (1, .ref (80 + 7 * a1 + 6)), (3, .int a3), (4, .int a4), (5, .int (a5 + 1))]) [1, 2, 3, 4, 0] rfl ?_
  exact hk_6 τ a1 a3 a4 (a5 + 1)
set_option maxRecDepth 100000 in
theorem t_Lw_reckon_J63 (hC : CX z ad x cX3_reckon RX3 9 (some .int)) (hR : x.2.2.1 = rmk 1 0 0) (k_6 : XS → Nat → Int32 → Int32 → Int32 → Option (Int32 × XS)) (hk_6 : ∀ (τ : XS) (a1 : Nat) (a3 : Int32) (a4 : Int32) (a5 : Int32), AT z x 9 (wX z σ) rI (eqA ad) 0 0 0 0 ad 6 [(0, .ref 57), (1, .ref (80 + 7 * a1 + 6)), (3, .int a3), (4, .int a4), (5, .int a5)] [] τ (k_6 τ a1 a3 a4 a5)) (τ : XS) (a1 : Nat) (a3 : Int32) (a4 : Int32) (a5 : Int32) (s0 : Int32) (s1 : Int32) : AT z x 9 (wX z σ) rI (eqA ad) 0 0 0 0 ad 63 [(0, .ref 57), (1, .ref (80 + 7 * a1 + 6)), (3, .int a3), (4, .int a4), (5, .int a5)] [.int s0, .int s1, .ref 61] τ (Lw_reckon_J63 k_6 τ a1 a3 a4 a5 s0 s1) := by
  unfold Lw_reckon_J63
  refine at_iast hC 61 dX3_reckon_63 cl_61 st_61 ?_
  refine at_goto (tgt := 217) hC dX3_reckon_64 rfl ?_
  exact t_Lw_reckon_J217 hC hR k_6 hk_6 (xA τ 306 (upd (τ.2.1 306) s1.toNatClampNeg s0)) a1 a3 a4 a5
set_option maxRecDepth 100000 in
theorem t_Lw_reckon_L6 (hC : CX z ad x cX3_reckon RX3 9 (some .int)) (hR : x.2.2.1 = rmk 1 0 0) (n : Nat) (τ : XS) (a1 : Nat) (a3 : Int32) (a4 : Int32) (a5 : Int32) : AT z x 9 (wX z σ) rI (eqA ad) 0 0 0 0 ad 6 [(0, .ref 57), (1, .ref (80 + 7 * a1 + 6)), (3, .int a3), (4, .int a4), (5, .int a5)] [] τ (Lw_reckon_L6 n τ a1 a3 a4 a5) := by
  revert τ a1 a3 a4 a5
  show ∀ (τ : XS) (a1 : Nat) (a3 : Int32) (a4 : Int32) (a5 : Int32), AT z x 9 (wX z σ) rI (eqA ad) 0 0 0 0 ad 6 [(0, .ref 57), (1, .ref (80 + 7 * a1 + 6)), (3, .int a3), (4, .int a4), (5, .int a5)] [] τ (Lw_reckon_L6_r n τ a1 a3 a4 a5)
  induction n with
  | zero => intro τ a1 a3 a4 a5; exact at_none
  | succ n hk_6 =>
    intro τ a1 a3 a4 a5
    unfold Lw_reckon_L6_r
    refine at_iload (j := 4) hC rfl dX3_reckon_6 ?_
    refine at_iload_n (j := 2) hC rfl rfl dX3_reckon_8 ?_
    refine at_icmp_ge (tgt := 223) hC dX3_reckon_9 rfl (fun _ => ?_) (fun _ => ?_)
    · refine at_iload (j := 3) hC rfl dX3_reckon_223 ?_
      refine at_if_le (tgt := 240) hC dX3_reckon_225 rfl (fun _ => ?_) (fun _ => ?_)
      · refine at_iconst hC ic_1 dX3_reckon_240 ?_
        exact at_iret (F := eqA ad) (ra := rI) hC dX3_reckon_241 rfl (Nat.le_refl 0) (Nat.le_refl 0) rfl
      · refine at_aload_n (j := 0) hC rfl rfl dX3_reckon_228 ?_
        refine gf_X3_24 hC dX3_reckon_229 ?_
        refine at_iload (j := 3) hC rfl dX3_reckon_232 ?_
        refine at_iconst hC ic_1 dX3_reckon_234 ?_
        refine at_isub hC dX3_reckon_235 ?_
        refine at_iald hC 61 dX3_reckon_236 cl_61 (fun v1 => ?_)
        refine at_goto (tgt := 241) hC dX3_reckon_237 rfl ?_
        exact at_iret (F := eqA ad) (ra := rI) hC dX3_reckon_241 rfl (Nat.le_refl 0) (Nat.le_refl 0) rfl
    · refine at_aload_n (j := 1) hC rfl rfl dX3_reckon_12 ?_
      refine at_iload (j := 4) hC rfl dX3_reckon_13 ?_
      refine at_gA (fun hg1 => ?_)
      refine at_iald hC (80 + 7 * a1 + 6) dX3_reckon_15 (cla_6 hg1) (fun v2 => ?_)
      refine at_istore (lv' := [(6, .int v2), (0, .ref 57), (1, .ref (80 + 7 * a1 + 6)), (3, .int a3), (4, .int a4), (5, .int a5)]) hC dX3_reckon_16 (by decide) rfl ?_
      refine at_iload (j := 0) hC rfl dX3_reckon_18 ?_
      refine at_bipush hC bi_m11 dX3_reckon_20 ?_
      refine at_icmp_le (tgt := 67) hC dX3_reckon_22 rfl (fun _ => ?_) (fun _ => ?_)
      · refine at_iload (j := 4) hC rfl dX3_reckon_67 ?_
        refine at_iconst hC ic_2 dX3_reckon_69 ?_
        refine at_icmp_ge (tgt := 75) hC dX3_reckon_70 rfl (fun _ => ?_) (fun _ => ?_)
        · refine at_aload_n (j := 1) hC rfl rfl dX3_reckon_75 ?_
          refine gf_X3_24 hC dX3_reckon_76 ?_
          refine at_iload (j := 4) hC rfl dX3_reckon_79 ?_
          refine at_iconst hC ic_2 dX3_reckon_81 ?_
          refine at_isub hC dX3_reckon_82 ?_
          refine at_iald hC 61 dX3_reckon_83 cl_61 (fun v3 => ?_)
          refine at_istore (lv' := [(7, .int v3), (6, .int v2), (0, .ref 57), (1, .ref (80 + 7 * a1 + 6)), (3, .int a3), (4, .int a4), (5, .int a5)]) hC dX3_reckon_84 (by decide) rfl ?_
          refine at_aload_n (j := 2) hC rfl rfl dX3_reckon_86 ?_
          refine gf_X3_24 hC dX3_reckon_87 ?_
          refine at_iload (j := 5) hC rfl dX3_reckon_90 ?_
          refine at_iconst hC ic_1 dX3_reckon_92 ?_
          refine at_isub hC dX3_reckon_93 ?_
          refine at_iald hC 61 dX3_reckon_94 cl_61 (fun v4 => ?_)
          refine at_istore (lv' := [(8, .int v4), (7, .int v3), (6, .int v2), (0, .ref 57), (1, .ref (80 + 7 * a1 + 6)), (3, .int a3), (4, .int a4), (5, .int a5)]) hC dX3_reckon_95 (by decide) rfl ?_
          refine at_iinc (j := 6) (v := a4 + (-2)) (lv' := [(4, .int (a4 + (-2))), (8, .int v4), (7, .int v3), (6, .int v2), (0, .ref 57), (1, .ref (80 + 7 * a1 + 6)), (3, .int a3), (5, .int a5)]) hC dX3_reckon_97 rfl rfl (by decide) rfl ?_
          refine at_iload (j := 3) hC rfl dX3_reckon_100 ?_
          refine at_sw (off := 97) (tgt := 199) (v := -15) hC 0 dX3_reckon_102 rfl rfl (by decide) (by decide) swp0 ?_ (fun hp0 => ?_)
          · refine at_iload (j := 2) hC rfl dX3_reckon_199 ?_
            refine at_iload (j := 1) hC rfl dX3_reckon_201 ?_
            refine at_icmp_eq (tgt := 217) hC dX3_reckon_203 rfl (fun _ => ?_) (fun _ => ?_)
            · refine at_drop (lv' := [(0, .ref 57), (1, .ref (80 + 7 * a1 + 6)), (3, .int a3), (4, .int (a4 + (-2))), (5, .int a5)]) [4, 5, 6, 0, 7] rfl ?_
              exact t_Lw_reckon_J217 hC hR (Lw_reckon_L6_r n) hk_6 τ a1 a3 (a4 + (-2)) a5
            · refine at_iconst hC ic_0 dX3_reckon_206 ?_
              exact at_iret (F := eqA ad) (ra := rI) hC dX3_reckon_207 rfl (Nat.le_refl 0) (Nat.le_refl 0) rfl
          refine at_sw (off := 88) (tgt := 190) (v := -14) hC 1 dX3_reckon_102 rfl rfl (by decide) (by decide) hp0 ?_ (fun hp1 => ?_)
          · refine at_iload (j := 2) hC rfl dX3_reckon_190 ?_
            refine at_iload (j := 1) hC rfl dX3_reckon_192 ?_
            refine at_icmp_lt (tgt := 217) hC dX3_reckon_194 rfl (fun _ => ?_) (fun _ => ?_)
            · refine at_drop (lv' := [(0, .ref 57), (1, .ref (80 + 7 * a1 + 6)), (3, .int a3), (4, .int (a4 + (-2))), (5, .int a5)]) [4, 5, 6, 0, 7] rfl ?_
              exact t_Lw_reckon_J217 hC hR (Lw_reckon_L6_r n) hk_6 τ a1 a3 (a4 + (-2)) a5
            · refine at_iconst hC ic_0 dX3_reckon_197 ?_
              exact at_iret (F := eqA ad) (ra := rI) hC dX3_reckon_198 rfl (Nat.le_refl 0) (Nat.le_refl 0) rfl
          refine at_sw (off := 70) (tgt := 172) (v := -13) hC 2 dX3_reckon_102 rfl rfl (by decide) (by decide) hp1 ?_ (fun hp2 => ?_)
          · refine at_aload_n (j := 4) hC rfl rfl dX3_reckon_172 ?_
            refine gf_X3_24 hC dX3_reckon_173 ?_
            refine at_iload (j := 0) hC rfl dX3_reckon_176 ?_
            refine at_iinc (j := 0) (v := (a4 + (-2)) + 1) (lv' := [(4, .int ((a4 + (-2)) + 1)), (8, .int v4), (7, .int v3), (6, .int v2), (0, .ref 57), (1, .ref (80 + 7 * a1 + 6)), (3, .int a3), (5, .int a5)]) hC dX3_reckon_178 rfl rfl (by decide) rfl ?_
            refine at_iload (j := 2) hC rfl dX3_reckon_181 ?_
            refine at_iload (j := 1) hC rfl dX3_reckon_183 ?_
            refine at_imul hC dX3_reckon_185 ?_
            refine at_iast hC 61 dX3_reckon_186 cl_61 st_61 ?_
            refine at_goto (tgt := 217) hC dX3_reckon_187 rfl ?_
            refine at_drop (lv' := [(0, .ref 57), (1, .ref (80 + 7 * a1 + 6)), (3, .int a3), (4, .int ((a4 + (-2)) + 1)), (5, .int a5)]) [4, 5, 6, 0, 7] rfl ?_
            exact t_Lw_reckon_J217 hC hR (Lw_reckon_L6_r n) hk_6 (xA τ 306 (upd (τ.2.1 306) (a4 + (-2)).toNatClampNeg (v3 * v4))) a1 a3 ((a4 + (-2)) + 1) a5
          refine at_sw (off := 52) (tgt := 154) (v := -12) hC 3 dX3_reckon_102 rfl rfl (by decide) (by decide) hp2 ?_ (fun hp3 => ?_)
          · refine at_aload_n (j := 4) hC rfl rfl dX3_reckon_154 ?_
            refine gf_X3_24 hC dX3_reckon_155 ?_
            refine at_iload (j := 0) hC rfl dX3_reckon_158 ?_
            refine at_iinc (j := 0) (v := (a4 + (-2)) + 1) (lv' := [(4, .int ((a4 + (-2)) + 1)), (8, .int v4), (7, .int v3), (6, .int v2), (0, .ref 57), (1, .ref (80 + 7 * a1 + 6)), (3, .int a3), (5, .int a5)]) hC dX3_reckon_160 rfl rfl (by decide) rfl ?_
            refine at_iload (j := 2) hC rfl dX3_reckon_163 ?_
            refine at_iload (j := 1) hC rfl dX3_reckon_165 ?_
            refine at_isub hC dX3_reckon_167 ?_
            refine at_iast hC 61 dX3_reckon_168 cl_61 st_61 ?_
            refine at_goto (tgt := 217) hC dX3_reckon_169 rfl ?_
            refine at_drop (lv' := [(0, .ref 57), (1, .ref (80 + 7 * a1 + 6)), (3, .int a3), (4, .int ((a4 + (-2)) + 1)), (5, .int a5)]) [4, 5, 6, 0, 7] rfl ?_
            exact t_Lw_reckon_J217 hC hR (Lw_reckon_L6_r n) hk_6 (xA τ 306 (upd (τ.2.1 306) (a4 + (-2)).toNatClampNeg (v3 - v4))) a1 a3 ((a4 + (-2)) + 1) a5
          refine at_sw (off := 34) (tgt := 136) (v := -11) hC 4 dX3_reckon_102 rfl rfl (by decide) (by decide) hp3 ?_ (fun hp4 => ?_)
          · refine at_aload_n (j := 4) hC rfl rfl dX3_reckon_136 ?_
            refine gf_X3_24 hC dX3_reckon_137 ?_
            refine at_iload (j := 0) hC rfl dX3_reckon_140 ?_
            refine at_iinc (j := 0) (v := (a4 + (-2)) + 1) (lv' := [(4, .int ((a4 + (-2)) + 1)), (8, .int v4), (7, .int v3), (6, .int v2), (0, .ref 57), (1, .ref (80 + 7 * a1 + 6)), (3, .int a3), (5, .int a5)]) hC dX3_reckon_142 rfl rfl (by decide) rfl ?_
            refine at_iload (j := 2) hC rfl dX3_reckon_145 ?_
            refine at_iload (j := 1) hC rfl dX3_reckon_147 ?_
            refine at_iadd hC dX3_reckon_149 ?_
            refine at_iast hC 61 dX3_reckon_150 cl_61 st_61 ?_
            refine at_goto (tgt := 217) hC dX3_reckon_151 rfl ?_
            refine at_drop (lv' := [(0, .ref 57), (1, .ref (80 + 7 * a1 + 6)), (3, .int a3), (4, .int ((a4 + (-2)) + 1)), (5, .int a5)]) [4, 5, 6, 0, 7] rfl ?_
            exact t_Lw_reckon_J217 hC hR (Lw_reckon_L6_r n) hk_6 (xA τ 306 (upd (τ.2.1 306) (a4 + (-2)).toNatClampNeg (v3 + v4))) a1 a3 ((a4 + (-2)) + 1) a5
          refine at_swd (tgt := 208) hC 5 dX3_reckon_102 rfl (by decide) hp4 ?_
          refine at_iload (j := 2) hC rfl dX3_reckon_208 ?_
          refine at_iload (j := 1) hC rfl dX3_reckon_210 ?_
          refine at_icmp_gt (tgt := 217) hC dX3_reckon_212 rfl (fun _ => ?_) (fun _ => ?_)
          · refine at_drop (lv' := [(0, .ref 57), (1, .ref (80 + 7 * a1 + 6)), (3, .int a3), (4, .int (a4 + (-2))), (5, .int a5)]) [4, 5, 6, 0, 7] rfl ?_
            exact t_Lw_reckon_J217 hC hR (Lw_reckon_L6_r n) hk_6 τ a1 a3 (a4 + (-2)) a5
          · refine at_iconst hC ic_0 dX3_reckon_215 ?_
            exact at_iret (F := eqA ad) (ra := rI) hC dX3_reckon_216 rfl (Nat.le_refl 0) (Nat.le_refl 0) rfl
        · refine at_iconst hC ic_0 dX3_reckon_73 ?_
          exact at_iret (F := eqA ad) (ra := rI) hC dX3_reckon_74 rfl (Nat.le_refl 0) (Nat.le_refl 0) rfl
      · refine at_iload (j := 4) hC rfl dX3_reckon_25 ?_
        refine at_sipush hC si_200 dX3_reckon_27 ?_
        refine at_icmp_lt (tgt := 35) hC dX3_reckon_30 rfl (fun _ => ?_) (fun _ => ?_)
        · refine at_aload_n (j := 1) hC rfl rfl dX3_reckon_35 ?_
          refine gf_X3_24 hC dX3_reckon_36 ?_
          refine at_iload (j := 4) hC rfl dX3_reckon_39 ?_
          refine at_iinc (j := 4) (v := a4 + 1) (lv' := [(4, .int (a4 + 1)), (6, .int v2), (0, .ref 57), (1, .ref (80 + 7 * a1 + 6)), (3, .int a3), (5, .int a5)]) hC dX3_reckon_41 rfl rfl (by decide) rfl ?_
          refine at_iload (j := 1) hC rfl dX3_reckon_44 ?_
          refine at_if_lt (tgt := 54) hC dX3_reckon_46 rfl (fun _ => ?_) (fun _ => ?_)
          · refine at_aload_n (j := 2) hC rfl rfl dX3_reckon_54 ?_
            refine gf_X3_21 hC dX3_reckon_55 ?_
            refine at_iconst hC ic_m1 dX3_reckon_58 ?_
            refine at_iload (j := 1) hC rfl dX3_reckon_59 ?_
            refine at_isub hC dX3_reckon_61 ?_
            refine at_iald hC 60 dX3_reckon_62 cl_60 (fun v5 => ?_)
            refine at_drop (lv' := [(0, .ref 57), (1, .ref (80 + 7 * a1 + 6)), (3, .int a3), (4, .int (a4 + 1)), (5, .int a5)]) [2, 3, 4, 0, 5] rfl ?_
            exact t_Lw_reckon_J63 hC hR (Lw_reckon_L6_r n) hk_6 τ a1 a3 (a4 + 1) a5 v5 a4
          · refine at_iload (j := 1) hC rfl dX3_reckon_49 ?_
            refine at_goto (tgt := 63) hC dX3_reckon_51 rfl ?_
            refine at_drop (lv' := [(0, .ref 57), (1, .ref (80 + 7 * a1 + 6)), (3, .int a3), (4, .int (a4 + 1)), (5, .int a5)]) [2, 3, 4, 0, 5] rfl ?_
            exact t_Lw_reckon_J63 hC hR (Lw_reckon_L6_r n) hk_6 τ a1 a3 (a4 + 1) a5 v2 a4
        · refine at_iconst hC ic_0 dX3_reckon_33 ?_
          exact at_iret (F := eqA ad) (ra := rI) hC dX3_reckon_34 rfl (Nat.le_refl 0) (Nat.le_refl 0) rfl
set_option maxRecDepth 100000 in
theorem c_Lw_reckon (τ : XS) (p0 : Nat) (p1 : Int32) (p2 : Int32) : Ct z (wX z σ) rI eqA yX3_reckon cX3_reckon 9 (some .int) 1 0 0 [.ref 57, .ref (80 + 7 * p0 + 6), .int p1, .int p2] τ (Lw_reckon τ p0 p1 p2) := by
  refine Ct.of (by decide) (Nat.le_of_ble_eq_true rfl) (fun ad x hC hR _ => ?_)
  show AT z x 9 (wX z σ) rI (eqA ad) 0 0 0 0 ad 0 [(0, .ref 57), (1, .ref (80 + 7 * p0 + 6)), (2, .int p1), (3, .int p2)] [] τ (Lw_reckon τ p0 p1 p2)
  unfold Lw_reckon
  refine at_iconst hC ic_0 dX3_reckon_0 ?_
  refine at_istore (lv' := [(4, .int 0), (0, .ref 57), (1, .ref (80 + 7 * p0 + 6)), (2, .int p1), (3, .int p2)]) hC dX3_reckon_1 (by decide) rfl ?_
  refine at_iload_n (j := 3) hC rfl rfl dX3_reckon_3 ?_
  refine at_istore (lv' := [(5, .int p1), (4, .int 0), (0, .ref 57), (1, .ref (80 + 7 * p0 + 6)), (2, .int p1), (3, .int p2)]) hC dX3_reckon_4 (by decide) rfl ?_
  refine at_drop (lv' := [(0, .ref 57), (1, .ref (80 + 7 * p0 + 6)), (3, .int p2), (4, .int 0), (5, .int p1)]) [2, 3, 5, 1, 0] rfl ?_
  exact t_Lw_reckon_L6 hC hR 100000 τ p0 p2 0 p1
theorem dX3_bounded_0 : decode cX3_bounded 0 = .ok (.iload_n 0, 1) := by decide +kernel
theorem dX3_bounded_1 : decode cX3_bounded 1 = .ok (.ifCond .ge 7, 3) := by decide +kernel
theorem dX3_bounded_4 : decode cX3_bounded 4 = .ok (.iconst 0, 1) := by decide +kernel
theorem dX3_bounded_5 : decode cX3_bounded 5 = .ok (.goto 17, 3) := by decide +kernel
theorem dX3_bounded_8 : decode cX3_bounded 8 = .ok (.iload_n 0, 1) := by decide +kernel
theorem dX3_bounded_9 : decode cX3_bounded 9 = .ok (.sipush 9999, 3) := by decide +kernel
theorem dX3_bounded_12 : decode cX3_bounded 12 = .ok (.if_icmp .le 9, 3) := by decide +kernel
theorem dX3_bounded_15 : decode cX3_bounded 15 = .ok (.sipush 9999, 3) := by decide +kernel
theorem dX3_bounded_18 : decode cX3_bounded 18 = .ok (.goto 4, 3) := by decide +kernel
theorem dX3_bounded_21 : decode cX3_bounded 21 = .ok (.iload_n 0, 1) := by decide +kernel
theorem dX3_bounded_22 : decode cX3_bounded 22 = .ok (.ireturn, 1) := by decide +kernel
set_option maxRecDepth 100000 in
theorem c_Lw_bounded (τ : XS) (p0 : Int32) : Ct z (wX z σ) rI eqA yX3_bounded cX3_bounded 1 (some .int) 1 0 0 [.int p0] τ ((Lw_bounded τ p0).map fun r => (r, τ)) := by
  refine Ct.of (by decide) (Nat.le_of_ble_eq_true rfl) (fun ad x hC hR _ => ?_)
  show AT z x 1 (wX z σ) rI (eqA ad) 0 0 0 0 ad 0 [(0, .int p0)] [] τ ((Lw_bounded τ p0).map fun r => (r, τ))
  unfold Lw_bounded
  refine at_iload_n (j := 0) hC rfl rfl dX3_bounded_0 ?_
  refine ap_if_ge (tgt := 8) hC dX3_bounded_1 rfl (fun _ => ?_) (fun _ => ?_)
  · refine at_iload_n (j := 0) hC rfl rfl dX3_bounded_8 ?_
    refine at_sipush hC si_9999 dX3_bounded_9 ?_
    refine ap_icmp_le (tgt := 21) hC dX3_bounded_12 rfl (fun _ => ?_) (fun _ => ?_)
    · refine at_iload_n (j := 0) hC rfl rfl dX3_bounded_21 ?_
      exact at_iret (F := eqA ad) (ra := rI) hC dX3_bounded_22 rfl (Nat.le_refl 0) (Nat.le_refl 0) rfl
    · refine at_sipush hC si_9999 dX3_bounded_15 ?_
      refine at_goto (tgt := 22) hC dX3_bounded_18 rfl ?_
      exact at_iret (F := eqA ad) (ra := rI) hC dX3_bounded_22 rfl (Nat.le_refl 0) (Nat.le_refl 0) rfl
  · refine at_iconst hC ic_0 dX3_bounded_4 ?_
    refine at_goto (tgt := 22) hC dX3_bounded_5 rfl ?_
    exact at_iret (F := eqA ad) (ra := rI) hC dX3_bounded_22 rfl (Nat.le_refl 0) (Nat.le_refl 0) rfl
theorem dX3_ruling_0 : decode cX3_ruling 0 = .ok (.aload_n 0, 1) := by decide +kernel
theorem dX3_ruling_1 : decode cX3_ruling 1 = .ok (.getfield 36, 3) := by decide +kernel
theorem dX3_ruling_4 : decode cX3_ruling 4 = .ok (.iconst 1, 1) := by decide +kernel
theorem dX3_ruling_5 : decode cX3_ruling 5 = .ok (.isub, 1) := by decide +kernel
theorem dX3_ruling_6 : decode cX3_ruling 6 = .ok (.istore_n 3, 1) := by decide +kernel
theorem dX3_ruling_7 : decode cX3_ruling 7 = .ok (.iload_n 3, 1) := by decide +kernel
theorem dX3_ruling_8 : decode cX3_ruling 8 = .ok (.ifCond .lt 179, 3) := by decide +kernel
theorem dX3_ruling_11 : decode cX3_ruling 11 = .ok (.aload_n 0, 1) := by decide +kernel
theorem dX3_ruling_12 : decode cX3_ruling 12 = .ok (.getfield 11, 3) := by decide +kernel
theorem dX3_ruling_15 : decode cX3_ruling 15 = .ok (.aload_n 0, 1) := by decide +kernel
theorem dX3_ruling_16 : decode cX3_ruling 16 = .ok (.getfield 17, 3) := by decide +kernel
theorem dX3_ruling_19 : decode cX3_ruling 19 = .ok (.iload_n 3, 1) := by decide +kernel
theorem dX3_ruling_20 : decode cX3_ruling 20 = .ok (.iaload, 1) := by decide +kernel
theorem dX3_ruling_21 : decode cX3_ruling 21 = .ok (.aaload, 1) := by decide +kernel
theorem dX3_ruling_22 : decode cX3_ruling 22 = .ok (.astore 4, 2) := by decide +kernel
theorem dX3_ruling_24 : decode cX3_ruling 24 = .ok (.aload 4, 2) := by decide +kernel
theorem dX3_ruling_26 : decode cX3_ruling 26 = .ok (.ifnull 155, 3) := by decide +kernel
theorem dX3_ruling_29 : decode cX3_ruling 29 = .ok (.aload 4, 2) := by decide +kernel
theorem dX3_ruling_31 : decode cX3_ruling 31 = .ok (.getfield 44, 3) := by decide +kernel
theorem dX3_ruling_34 : decode cX3_ruling 34 = .ok (.iload_n 2, 1) := by decide +kernel
theorem dX3_ruling_35 : decode cX3_ruling 35 = .ok (.if_icmp .le 6, 3) := by decide +kernel
theorem dX3_ruling_38 : decode cX3_ruling 38 = .ok (.goto 143, 3) := by decide +kernel
theorem dX3_ruling_41 : decode cX3_ruling 41 = .ok (.aload 4, 2) := by decide +kernel
theorem dX3_ruling_43 : decode cX3_ruling 43 = .ok (.getfield 86, 3) := by decide +kernel
theorem dX3_ruling_46 : decode cX3_ruling 46 = .ok (.iconst 1, 1) := by decide +kernel
theorem dX3_ruling_47 : decode cX3_ruling 47 = .ok (.isub, 1) := by decide +kernel
theorem dX3_ruling_48 : decode cX3_ruling 48 = .ok (.istore 5, 2) := by decide +kernel
theorem dX3_ruling_50 : decode cX3_ruling 50 = .ok (.iload 5, 2) := by decide +kernel
theorem dX3_ruling_52 : decode cX3_ruling 52 = .ok (.ifCond .lt 129, 3) := by decide +kernel
theorem dX3_ruling_55 : decode cX3_ruling 55 = .ok (.aload 4, 2) := by decide +kernel
theorem dX3_ruling_57 : decode cX3_ruling 57 = .ok (.getfield 89, 3) := by decide +kernel
theorem dX3_ruling_60 : decode cX3_ruling 60 = .ok (.iload 5, 2) := by decide +kernel
theorem dX3_ruling_62 : decode cX3_ruling 62 = .ok (.iaload, 1) := by decide +kernel
theorem dX3_ruling_63 : decode cX3_ruling 63 = .ok (.iload_n 1, 1) := by decide +kernel
theorem dX3_ruling_64 : decode cX3_ruling 64 = .ok (.if_icmp .ne 111, 3) := by decide +kernel
theorem dX3_ruling_67 : decode cX3_ruling 67 = .ok (.aload 4, 2) := by decide +kernel
theorem dX3_ruling_69 : decode cX3_ruling 69 = .ok (.getfield 92, 3) := by decide +kernel
theorem dX3_ruling_72 : decode cX3_ruling 72 = .ok (.iload 5, 2) := by decide +kernel
theorem dX3_ruling_74 : decode cX3_ruling 74 = .ok (.iaload, 1) := by decide +kernel
theorem dX3_ruling_75 : decode cX3_ruling 75 = .ok (.iload_n 2, 1) := by decide +kernel
theorem dX3_ruling_76 : decode cX3_ruling 76 = .ok (.if_icmp .gt 6, 3) := by decide +kernel
theorem dX3_ruling_79 : decode cX3_ruling 79 = .ok (.goto 96, 3) := by decide +kernel
theorem dX3_ruling_82 : decode cX3_ruling 82 = .ok (.aload_n 0, 1) := by decide +kernel
theorem dX3_ruling_83 : decode cX3_ruling 83 = .ok (.aload 4, 2) := by decide +kernel
theorem dX3_ruling_85 : decode cX3_ruling 85 = .ok (.getfield 95, 3) := by decide +kernel
theorem dX3_ruling_88 : decode cX3_ruling 88 = .ok (.aload 4, 2) := by decide +kernel
theorem dX3_ruling_90 : decode cX3_ruling 90 = .ok (.getfield 98, 3) := by decide +kernel
theorem dX3_ruling_93 : decode cX3_ruling 93 = .ok (.iload 5, 2) := by decide +kernel
theorem dX3_ruling_95 : decode cX3_ruling 95 = .ok (.iaload, 1) := by decide +kernel
theorem dX3_ruling_96 : decode cX3_ruling 96 = .ok (.aload 4, 2) := by decide +kernel
theorem dX3_ruling_98 : decode cX3_ruling 98 = .ok (.getfield 101, 3) := by decide +kernel
theorem dX3_ruling_101 : decode cX3_ruling 101 = .ok (.iload 5, 2) := by decide +kernel
theorem dX3_ruling_103 : decode cX3_ruling 103 = .ok (.iaload, 1) := by decide +kernel
theorem dX3_ruling_104 : decode cX3_ruling 104 = .ok (.invokevirtual 104, 3) := by decide +kernel
theorem dX3_ruling_107 : decode cX3_ruling 107 = .ok (.ifCond .ne 6, 3) := by decide +kernel
theorem dX3_ruling_110 : decode cX3_ruling 110 = .ok (.goto 65, 3) := by decide +kernel
theorem dX3_ruling_113 : decode cX3_ruling 113 = .ok (.aload_n 0, 1) := by decide +kernel
theorem dX3_ruling_114 : decode cX3_ruling 114 = .ok (.bipush 100, 2) := by decide +kernel
theorem dX3_ruling_116 : decode cX3_ruling 116 = .ok (.aload_n 0, 1) := by decide +kernel
theorem dX3_ruling_117 : decode cX3_ruling 117 = .ok (.getfield 17, 3) := by decide +kernel
theorem dX3_ruling_120 : decode cX3_ruling 120 = .ok (.iload_n 3, 1) := by decide +kernel
theorem dX3_ruling_121 : decode cX3_ruling 121 = .ok (.iaload, 1) := by decide +kernel
theorem dX3_ruling_122 : decode cX3_ruling 122 = .ok (.imul, 1) := by decide +kernel
theorem dX3_ruling_123 : decode cX3_ruling 123 = .ok (.iload 5, 2) := by decide +kernel
theorem dX3_ruling_125 : decode cX3_ruling 125 = .ok (.iadd, 1) := by decide +kernel
theorem dX3_ruling_126 : decode cX3_ruling 126 = .ok (.putfield 108, 3) := by decide +kernel
theorem dX3_ruling_129 : decode cX3_ruling 129 = .ok (.aload_n 0, 1) := by decide +kernel
theorem dX3_ruling_130 : decode cX3_ruling 130 = .ok (.aload 4, 2) := by decide +kernel
theorem dX3_ruling_132 : decode cX3_ruling 132 = .ok (.getfield 44, 3) := by decide +kernel
theorem dX3_ruling_135 : decode cX3_ruling 135 = .ok (.putfield 111, 3) := by decide +kernel
theorem dX3_ruling_138 : decode cX3_ruling 138 = .ok (.aload_n 0, 1) := by decide +kernel
theorem dX3_ruling_139 : decode cX3_ruling 139 = .ok (.aload_n 0, 1) := by decide +kernel
theorem dX3_ruling_140 : decode cX3_ruling 140 = .ok (.aload 4, 2) := by decide +kernel
theorem dX3_ruling_142 : decode cX3_ruling 142 = .ok (.getfield 95, 3) := by decide +kernel
theorem dX3_ruling_145 : decode cX3_ruling 145 = .ok (.aload 4, 2) := by decide +kernel
theorem dX3_ruling_147 : decode cX3_ruling 147 = .ok (.getfield 114, 3) := by decide +kernel
theorem dX3_ruling_150 : decode cX3_ruling 150 = .ok (.iload 5, 2) := by decide +kernel
theorem dX3_ruling_152 : decode cX3_ruling 152 = .ok (.iaload, 1) := by decide +kernel
theorem dX3_ruling_153 : decode cX3_ruling 153 = .ok (.aload 4, 2) := by decide +kernel
theorem dX3_ruling_155 : decode cX3_ruling 155 = .ok (.getfield 98, 3) := by decide +kernel
theorem dX3_ruling_158 : decode cX3_ruling 158 = .ok (.iload 5, 2) := by decide +kernel
theorem dX3_ruling_160 : decode cX3_ruling 160 = .ok (.iaload, 1) := by decide +kernel
theorem dX3_ruling_161 : decode cX3_ruling 161 = .ok (.invokevirtual 104, 3) := by decide +kernel
theorem dX3_ruling_164 : decode cX3_ruling 164 = .ok (.invokestatic 117, 3) := by decide +kernel
theorem dX3_ruling_167 : decode cX3_ruling 167 = .ok (.putfield 120, 3) := by decide +kernel
theorem dX3_ruling_170 : decode cX3_ruling 170 = .ok (.aload_n 0, 1) := by decide +kernel
theorem dX3_ruling_171 : decode cX3_ruling 171 = .ok (.getfield 120, 3) := by decide +kernel
theorem dX3_ruling_174 : decode cX3_ruling 174 = .ok (.ireturn, 1) := by decide +kernel
theorem dX3_ruling_175 : decode cX3_ruling 175 = .ok (.iinc 5 (-1), 3) := by decide +kernel
theorem dX3_ruling_178 : decode cX3_ruling 178 = .ok (.goto (-128), 3) := by decide +kernel
theorem dX3_ruling_181 : decode cX3_ruling 181 = .ok (.iinc 3 (-1), 3) := by decide +kernel
theorem dX3_ruling_184 : decode cX3_ruling 184 = .ok (.goto (-177), 3) := by decide +kernel
theorem dX3_ruling_187 : decode cX3_ruling 187 = .ok (.aload_n 0, 1) := by decide +kernel
theorem dX3_ruling_188 : decode cX3_ruling 188 = .ok (.bipush (-5), 2) := by decide +kernel
theorem dX3_ruling_190 : decode cX3_ruling 190 = .ok (.putfield 108, 3) := by decide +kernel
theorem dX3_ruling_193 : decode cX3_ruling 193 = .ok (.iload_n 1, 1) := by decide +kernel
theorem dX3_ruling_194 : decode cX3_ruling 194 = .ok (.bipush 7, 2) := by decide +kernel
theorem dX3_ruling_196 : decode cX3_ruling 196 = .ok (.if_icmp .ne 8, 3) := by decide +kernel
theorem dX3_ruling_199 : decode cX3_ruling 199 = .ok (.bipush 18, 2) := by decide +kernel
theorem dX3_ruling_201 : decode cX3_ruling 201 = .ok (.goto 15, 3) := by decide +kernel
theorem dX3_ruling_204 : decode cX3_ruling 204 = .ok (.iload_n 1, 1) := by decide +kernel
theorem dX3_ruling_205 : decode cX3_ruling 205 = .ok (.bipush 8, 2) := by decide +kernel
theorem dX3_ruling_207 : decode cX3_ruling 207 = .ok (.if_icmp .ne 8, 3) := by decide +kernel
theorem dX3_ruling_210 : decode cX3_ruling 210 = .ok (.bipush 40, 2) := by decide +kernel
theorem dX3_ruling_212 : decode cX3_ruling 212 = .ok (.goto 4, 3) := by decide +kernel
theorem dX3_ruling_215 : decode cX3_ruling 215 = .ok (.iconst 0, 1) := by decide +kernel
theorem dX3_ruling_216 : decode cX3_ruling 216 = .ok (.ireturn, 1) := by decide +kernel
set_option maxRecDepth 100000 in
theorem t_Lw_ruling_J181 (hC : CX z ad x cX3_ruling RX3 6 (some .int)) (hR : x.2.2.1 = rmk 2 0 0) (k_7 : XS → Int32 → Int32 → Int32 → Option (Int32 × XS)) (hk_7 : ∀ (τ : XS) (a1 : Int32) (a2 : Int32) (a3 : Int32), AT z x 6 (wX z σ) rI (eqA ad) 0 0 0 0 ad 7 [(0, .ref 57), (1, .int a1), (2, .int a2), (3, .int a3)] [] τ (k_7 τ a1 a2 a3)) (τ : XS) (a1 : Int32) (a2 : Int32) (a3 : Int32) : AT z x 6 (wX z σ) rI (eqA ad) 0 0 0 0 ad 181 [(0, .ref 57), (1, .int a1), (2, .int a2), (3, .int a3)] [] τ (Lw_ruling_J181 k_7 τ a1 a2 a3) := by
  unfold Lw_ruling_J181
  refine at_iinc (j := 3) (v := a3 + (-1)) (lv' := [(3, .int (a3 + (-1))), (0, .ref 57), (1, .int a1), (2, .int a2)]) hC dX3_ruling_181 rfl rfl (by decide) rfl ?_
  refine at_goto (tgt := 7) hC dX3_ruling_184 rfl ?_
  refine at_drop (lv' := [(0, .ref 57), (1, .int a1), (2, .int a2), (3, .int (a3 + (-1)))]) [1, 2, 3, 0] rfl ?_
  exact hk_7 τ a1 a2 (a3 + (-1))
set_option maxRecDepth 100000 in
theorem t_Lw_ruling_J175 (hC : CX z ad x cX3_ruling RX3 6 (some .int)) (hR : x.2.2.1 = rmk 2 0 0) (k_7 : XS → Int32 → Int32 → Int32 → Option (Int32 × XS)) (hk_7 : ∀ (τ : XS) (a1 : Int32) (a2 : Int32) (a3 : Int32), AT z x 6 (wX z σ) rI (eqA ad) 0 0 0 0 ad 7 [(0, .ref 57), (1, .int a1), (2, .int a2), (3, .int a3)] [] τ (k_7 τ a1 a2 a3)) (k_50 : XS → Int32 → Int32 → Int32 → Option Nat → Int32 → Option (Int32 × XS)) (hk_50 : ∀ (τ : XS) (a1 : Int32) (a2 : Int32) (a3 : Int32) (a4 : Option Nat) (a5 : Int32), AT z x 6 (wX z σ) rI (eqA ad) 0 0 0 0 ad 50 [(0, .ref 57), (1, .int a1), (2, .int a2), (3, .int a3), (4, vr a4), (5, .int a5)] [] τ (k_50 τ a1 a2 a3 a4 a5)) (τ : XS) (a1 : Int32) (a2 : Int32) (a3 : Int32) (a4 : Option Nat) (a5 : Int32) : AT z x 6 (wX z σ) rI (eqA ad) 0 0 0 0 ad 175 [(0, .ref 57), (1, .int a1), (2, .int a2), (3, .int a3), (4, vr a4), (5, .int a5)] [] τ (Lw_ruling_J175 k_7 k_50 τ a1 a2 a3 a4 a5) := by
  unfold Lw_ruling_J175
  refine at_iinc (j := 5) (v := a5 + (-1)) (lv' := [(5, .int (a5 + (-1))), (0, .ref 57), (1, .int a1), (2, .int a2), (3, .int a3), (4, vr a4)]) hC dX3_ruling_175 rfl rfl (by decide) (by cases a4 <;> rfl) ?_
  refine at_goto (tgt := 50) hC dX3_ruling_178 rfl ?_
  refine at_drop (lv' := [(0, .ref 57), (1, .int a1), (2, .int a2), (3, .int a3), (4, vr a4), (5, .int (a5 + (-1)))]) [1, 2, 3, 4, 5, 0] rfl ?_
  exact hk_50 τ a1 a2 a3 a4 (a5 + (-1))
set_option maxRecDepth 100000 in
theorem t_Lw_ruling_L50 (hC : CX z ad x cX3_ruling RX3 6 (some .int)) (hR : x.2.2.1 = rmk 2 0 0) (k_7 : XS → Int32 → Int32 → Int32 → Option (Int32 × XS)) (hk_7 : ∀ (τ : XS) (a1 : Int32) (a2 : Int32) (a3 : Int32), AT z x 6 (wX z σ) rI (eqA ad) 0 0 0 0 ad 7 [(0, .ref 57), (1, .int a1), (2, .int a2), (3, .int a3)] [] τ (k_7 τ a1 a2 a3)) (n : Nat) (τ : XS) (a1 : Int32) (a2 : Int32) (a3 : Int32) (a4 : Option Nat) (a5 : Int32) : AT z x 6 (wX z σ) rI (eqA ad) 0 0 0 0 ad 50 [(0, .ref 57), (1, .int a1), (2, .int a2), (3, .int a3), (4, vr a4), (5, .int a5)] [] τ (Lw_ruling_L50 k_7 n τ a1 a2 a3 a4 a5) := by
  revert τ a1 a2 a3 a4 a5
  show ∀ (τ : XS) (a1 : Int32) (a2 : Int32) (a3 : Int32) (a4 : Option Nat) (a5 : Int32), AT z x 6 (wX z σ) rI (eqA ad) 0 0 0 0 ad 50 [(0, .ref 57), (1, .int a1), (2, .int a2), (3, .int a3), (4, vr a4), (5, .int a5)] [] τ (Lw_ruling_L50_r k_7 n τ a1 a2 a3 a4 a5)
  induction n with
  | zero => intro τ a1 a2 a3 a4 a5; exact at_none
  | succ n hk_50 =>
    intro τ a1 a2 a3 a4 a5
    unfold Lw_ruling_L50_r
    refine at_iload (j := 5) hC rfl dX3_ruling_50 ?_
    refine at_if_lt (tgt := 181) hC dX3_ruling_52 rfl (fun _ => ?_) (fun _ => ?_)
    · refine at_drop (lv' := [(0, .ref 57), (1, .int a1), (2, .int a2), (3, .int a3)]) [0, 1, 2, 3] rfl ?_
      exact t_Lw_ruling_J181 hC hR k_7 hk_7 τ a1 a2 a3
    · refine at_aloadV (j := 4) hC rfl dX3_ruling_55 ?_
      refine at_oA (pre := []) rfl (fun a_3 _ hg3 => ?_)
      refine at_get (v := .ref (80 + 7 * a_3 + 1)) (C := RX0) (T := TX0) (N := 10) (ci := 0) (j := 3) hC (80 + 7 * a_3) dX3_ruling_57 inX0 (cla hg3) rfl (by decide) lf_X3_89 rfl rfl ?_
      refine at_iload (j := 5) hC rfl dX3_ruling_60 ?_
      refine at_iald hC (80 + 7 * a_3 + 1) dX3_ruling_62 (cla_1 hg3) (fun v3 => ?_)
      refine at_iload_n (j := 1) hC rfl rfl dX3_ruling_63 ?_
      refine at_icmp_ne (tgt := 175) hC dX3_ruling_64 rfl (fun _ => ?_) (fun _ => ?_)
      · exact t_Lw_ruling_J175 hC hR k_7 hk_7 (Lw_ruling_L50_r k_7 n) hk_50 τ a1 a2 a3 a4 a5
      · refine at_aloadV (j := 4) hC rfl dX3_ruling_67 ?_
        refine at_oA (pre := []) rfl (fun a_4 _ hg4 => ?_)
        refine at_get (v := .ref (80 + 7 * a_4 + 5)) (C := RX0) (T := TX0) (N := 10) (ci := 0) (j := 7) hC (80 + 7 * a_4) dX3_ruling_69 inX0 (cla hg4) rfl (by decide) lf_X3_92 rfl rfl ?_
        refine at_iload (j := 5) hC rfl dX3_ruling_72 ?_
        refine at_iald hC (80 + 7 * a_4 + 5) dX3_ruling_74 (cla_5 hg4) (fun v4 => ?_)
        refine at_iload_n (j := 2) hC rfl rfl dX3_ruling_75 ?_
        refine at_icmp_gt (tgt := 82) hC dX3_ruling_76 rfl (fun _ => ?_) (fun _ => ?_)
        · refine at_aload_n (j := 0) hC rfl rfl dX3_ruling_82 ?_
          refine at_aloadV (j := 4) hC rfl dX3_ruling_83 ?_
          refine at_oA (pre := []) rfl (fun a_5 _ hg5 => ?_)
          refine at_get (v := .ref (80 + 7 * a_5 + 6)) (C := RX0) (T := TX0) (N := 10) (ci := 0) (j := 8) hC (80 + 7 * a_5) dX3_ruling_85 inX0 (cla hg5) rfl (by decide) lf_X3_95 rfl rfl ?_
          refine at_aloadV (j := 4) hC rfl dX3_ruling_88 ?_
          refine at_oA (pre := []) rfl (fun a_6 _ hg6 => ?_)
          refine at_get (v := .ref (80 + 7 * a_6 + 3)) (C := RX0) (T := TX0) (N := 10) (ci := 0) (j := 5) hC (80 + 7 * a_6) dX3_ruling_90 inX0 (cla hg6) rfl (by decide) lf_X3_98 rfl rfl ?_
          refine at_iload (j := 5) hC rfl dX3_ruling_93 ?_
          refine at_iald hC (80 + 7 * a_6 + 3) dX3_ruling_95 (cla_3 hg6) (fun v5 => ?_)
          refine at_aloadV (j := 4) hC rfl dX3_ruling_96 ?_
          refine at_oA (pre := []) rfl (fun a_7 _ hg7 => ?_)
          refine at_get (v := .ref (80 + 7 * a_7 + 4)) (C := RX0) (T := TX0) (N := 10) (ci := 0) (j := 6) hC (80 + 7 * a_7) dX3_ruling_98 inX0 (cla hg7) rfl (by decide) lf_X3_101 rfl rfl ?_
          refine at_iload (j := 5) hC rfl dX3_ruling_101 ?_
          refine at_iald hC (80 + 7 * a_7 + 4) dX3_ruling_103 (cla_4 hg7) (fun v6 => ?_)
          refine at_callVI hC hR lk_X3_104 (c_Lw_reckon τ a_5 v5 v6) dX3_ruling_104 recX3 rfl rfl ⟨by decide, by decide⟩ (Nat.le_of_ble_eq_true rfl) ⟨Nat.le_refl 0, Nat.le_refl 0⟩ (fun r7 r7s _ => ?_)
          refine at_if_ne (tgt := 113) hC dX3_ruling_107 rfl (fun _ => ?_) (fun _ => ?_)
          · refine at_aload_n (j := 0) hC rfl rfl dX3_ruling_113 ?_
            refine at_bipush hC bi_100 dX3_ruling_114 ?_
            refine at_aload_n (j := 0) hC rfl rfl dX3_ruling_116 ?_
            refine gf_X3_17 hC dX3_ruling_117 ?_
            refine at_iload_n (j := 3) hC rfl rfl dX3_ruling_120 ?_
            refine at_iald hC 59 dX3_ruling_121 cl_59 (fun v8 => ?_)
            refine at_imul hC dX3_ruling_122 ?_
            refine at_iload (j := 5) hC rfl dX3_ruling_123 ?_
            refine at_iadd hC dX3_ruling_125 ?_
            refine pf_X3_108 hC dX3_ruling_126 ?_
            refine at_aload_n (j := 0) hC rfl rfl dX3_ruling_129 ?_
            refine at_aloadV (j := 4) hC rfl dX3_ruling_130 ?_
            refine at_oA (pre := []) rfl (fun a_8 _ hg8 => ?_)
            refine at_get (v := .int (tF (xI r7s 307 ((100 * v8) + a5)) a_8 0)) (C := RX0) (T := TX0) (N := 10) (ci := 0) (j := 0) hC (80 + 7 * a_8) dX3_ruling_132 inX0 (cla hg8) rfl (by decide) lf_X3_44 rfl rfl ?_
            refine pf_X3_111 hC dX3_ruling_135 ?_
            refine at_aload_n (j := 0) hC rfl rfl dX3_ruling_138 ?_
            refine at_aload_n (j := 0) hC rfl rfl dX3_ruling_139 ?_
            refine at_aloadV (j := 4) hC rfl dX3_ruling_140 ?_
            refine at_oA (pre := []) rfl (fun a_9 _ hg9 => ?_)
            refine at_get (v := .ref (80 + 7 * a_9 + 6)) (C := RX0) (T := TX0) (N := 10) (ci := 0) (j := 8) hC (80 + 7 * a_9) dX3_ruling_142 inX0 (cla hg9) rfl (by decide) lf_X3_95 rfl rfl ?_
            refine at_aloadV (j := 4) hC rfl dX3_ruling_145 ?_
            refine at_oA (pre := []) rfl (fun a_10 _ hg10 => ?_)
            refine at_get (v := .ref (80 + 7 * a_10 + 2)) (C := RX0) (T := TX0) (N := 10) (ci := 0) (j := 4) hC (80 + 7 * a_10) dX3_ruling_147 inX0 (cla hg10) rfl (by decide) lf_X3_114 rfl rfl ?_
            refine at_iload (j := 5) hC rfl dX3_ruling_150 ?_
            refine at_iald hC (80 + 7 * a_10 + 2) dX3_ruling_152 (cla_2 hg10) (fun v9 => ?_)
            refine at_aloadV (j := 4) hC rfl dX3_ruling_153 ?_
            refine at_oA (pre := []) rfl (fun a_11 _ hg11 => ?_)
            refine at_get (v := .ref (80 + 7 * a_11 + 3)) (C := RX0) (T := TX0) (N := 10) (ci := 0) (j := 5) hC (80 + 7 * a_11) dX3_ruling_155 inX0 (cla hg11) rfl (by decide) lf_X3_98 rfl rfl ?_
            refine at_iload (j := 5) hC rfl dX3_ruling_158 ?_
            refine at_iald hC (80 + 7 * a_11 + 3) dX3_ruling_160 (cla_3 hg11) (fun v10 => ?_)
            refine at_callVI hC hR lk_X3_104 (c_Lw_reckon (xI (xI r7s 307 ((100 * v8) + a5)) 309 (tF (xI r7s 307 ((100 * v8) + a5)) a_8 0)) a_9 v9 v10) dX3_ruling_161 recX3 rfl rfl ⟨by decide, by decide⟩ (Nat.le_of_ble_eq_true rfl) ⟨Nat.le_refl 0, Nat.le_refl 0⟩ (fun r11 r11s _ => ?_)
            refine at_callSpI hC hR lk_X3_117 (c_Lw_bounded r11s r11) dX3_ruling_164 rfl rfl ⟨by decide, by decide⟩ (Nat.le_of_ble_eq_true rfl) ⟨Nat.le_refl 0, Nat.le_refl 0⟩ (fun r12 _ => ?_)
            refine pf_X3_120 hC dX3_ruling_167 ?_
            refine at_aload_n (j := 0) hC rfl rfl dX3_ruling_170 ?_
            refine gf_X3_120 hC dX3_ruling_171 ?_
            exact at_iret (F := eqA ad) (ra := rI) hC dX3_ruling_174 rfl (Nat.le_refl 0) (Nat.le_refl 0) rfl
          · refine at_goto (tgt := 175) hC dX3_ruling_110 rfl ?_
            exact t_Lw_ruling_J175 hC hR k_7 hk_7 (Lw_ruling_L50_r k_7 n) hk_50 r7s a1 a2 a3 a4 a5
        · refine at_goto (tgt := 175) hC dX3_ruling_79 rfl ?_
          exact t_Lw_ruling_J175 hC hR k_7 hk_7 (Lw_ruling_L50_r k_7 n) hk_50 τ a1 a2 a3 a4 a5
set_option maxRecDepth 100000 in
theorem t_Lw_ruling_L7 (hC : CX z ad x cX3_ruling RX3 6 (some .int)) (hR : x.2.2.1 = rmk 2 0 0) (n : Nat) (τ : XS) (a1 : Int32) (a2 : Int32) (a3 : Int32) : AT z x 6 (wX z σ) rI (eqA ad) 0 0 0 0 ad 7 [(0, .ref 57), (1, .int a1), (2, .int a2), (3, .int a3)] [] τ (Lw_ruling_L7 n τ a1 a2 a3) := by
  revert τ a1 a2 a3
  show ∀ (τ : XS) (a1 : Int32) (a2 : Int32) (a3 : Int32), AT z x 6 (wX z σ) rI (eqA ad) 0 0 0 0 ad 7 [(0, .ref 57), (1, .int a1), (2, .int a2), (3, .int a3)] [] τ (Lw_ruling_L7_r n τ a1 a2 a3)
  induction n with
  | zero => intro τ a1 a2 a3; exact at_none
  | succ n hk_7 =>
    intro τ a1 a2 a3
    unfold Lw_ruling_L7_r
    refine at_iload_n (j := 3) hC rfl rfl dX3_ruling_7 ?_
    refine at_if_lt (tgt := 187) hC dX3_ruling_8 rfl (fun _ => ?_) (fun _ => ?_)
    · refine at_aload_n (j := 0) hC rfl rfl dX3_ruling_187 ?_
      refine at_bipush hC bi_m5 dX3_ruling_188 ?_
      refine pf_X3_108 hC dX3_ruling_190 ?_
      refine at_iload_n (j := 1) hC rfl rfl dX3_ruling_193 ?_
      refine at_bipush hC bi_7 dX3_ruling_194 ?_
      refine at_icmp_ne (tgt := 204) hC dX3_ruling_196 rfl (fun _ => ?_) (fun _ => ?_)
      · refine at_iload_n (j := 1) hC rfl rfl dX3_ruling_204 ?_
        refine at_bipush hC bi_8 dX3_ruling_205 ?_
        refine at_icmp_ne (tgt := 215) hC dX3_ruling_207 rfl (fun _ => ?_) (fun _ => ?_)
        · refine at_iconst hC ic_0 dX3_ruling_215 ?_
          exact at_iret (F := eqA ad) (ra := rI) hC dX3_ruling_216 rfl (Nat.le_refl 0) (Nat.le_refl 0) rfl
        · refine at_bipush hC bi_40 dX3_ruling_210 ?_
          refine at_goto (tgt := 216) hC dX3_ruling_212 rfl ?_
          exact at_iret (F := eqA ad) (ra := rI) hC dX3_ruling_216 rfl (Nat.le_refl 0) (Nat.le_refl 0) rfl
      · refine at_bipush hC bi_18 dX3_ruling_199 ?_
        refine at_goto (tgt := 216) hC dX3_ruling_201 rfl ?_
        exact at_iret (F := eqA ad) (ra := rI) hC dX3_ruling_216 rfl (Nat.le_refl 0) (Nat.le_refl 0) rfl
    · refine at_aload_n (j := 0) hC rfl rfl dX3_ruling_11 ?_
      refine gf_X3_11 hC dX3_ruling_12 ?_
      refine at_aload_n (j := 0) hC rfl rfl dX3_ruling_15 ?_
      refine gf_X3_17 hC dX3_ruling_16 ?_
      refine at_iload_n (j := 3) hC rfl rfl dX3_ruling_19 ?_
      refine at_iald hC 59 dX3_ruling_20 cl_59 (fun v1 => ?_)
      refine at_aldq hC 58 dX3_ruling_21 cl_58 (fun v2 => ?_)
      refine at_astoreV (lv' := [(4, vr v2), (0, .ref 57), (1, .int a1), (2, .int a2), (3, .int a3)]) hC dX3_ruling_22 (by decide) rfl ?_
      refine at_aloadV (j := 0) hC rfl dX3_ruling_24 ?_
      refine at_ifnull (tgt := 181) hC dX3_ruling_26 rfl ?_ ?_
      · refine at_drop (lv' := [(0, .ref 57), (1, .int a1), (2, .int a2), (3, .int a3)]) [1, 2, 3, 4] rfl ?_
        exact t_Lw_ruling_J181 hC hR (Lw_ruling_L7_r n) hk_7 τ a1 a2 a3
      · refine at_aloadV (j := 0) hC rfl dX3_ruling_29 ?_
        refine at_oA (pre := []) rfl (fun a_1 _ hg1 => ?_)
        refine at_get (v := .int (tF τ a_1 0)) (C := RX0) (T := TX0) (N := 10) (ci := 0) (j := 0) hC (80 + 7 * a_1) dX3_ruling_31 inX0 (cla hg1) rfl (by decide) lf_X3_44 rfl rfl ?_
        refine at_iload_n (j := 3) hC rfl rfl dX3_ruling_34 ?_
        refine at_icmp_le (tgt := 41) hC dX3_ruling_35 rfl (fun _ => ?_) (fun _ => ?_)
        · refine at_aloadV (j := 0) hC rfl dX3_ruling_41 ?_
          refine at_oA (pre := []) rfl (fun a_2 _ hg2 => ?_)
          refine at_get (v := .int (tF τ a_2 2)) (C := RX0) (T := TX0) (N := 10) (ci := 0) (j := 2) hC (80 + 7 * a_2) dX3_ruling_43 inX0 (cla hg2) rfl (by decide) lf_X3_86 rfl rfl ?_
          refine at_iconst hC ic_1 dX3_ruling_46 ?_
          refine at_isub hC dX3_ruling_47 ?_
          refine at_istore (lv' := [(5, .int ((tF τ a_2 2) - 1)), (4, vr v2), (0, .ref 57), (1, .int a1), (2, .int a2), (3, .int a3)]) hC dX3_ruling_48 (by decide) (by cases v2 <;> rfl) ?_
          refine at_drop (lv' := [(0, .ref 57), (1, .int a1), (2, .int a2), (3, .int a3), (4, vr v2), (5, .int ((tF τ a_2 2) - 1))]) [2, 3, 4, 5, 1, 0] rfl ?_
          exact t_Lw_ruling_L50 hC hR (Lw_ruling_L7_r n) hk_7 100000 τ a1 a2 a3 v2 ((tF τ a_2 2) - 1)
        · refine at_goto (tgt := 181) hC dX3_ruling_38 rfl ?_
          refine at_drop (lv' := [(0, .ref 57), (1, .int a1), (2, .int a2), (3, .int a3)]) [1, 2, 3, 4] rfl ?_
          exact t_Lw_ruling_J181 hC hR (Lw_ruling_L7_r n) hk_7 τ a1 a2 a3
set_option maxRecDepth 100000 in
theorem c_Lw_ruling (τ : XS) (p0 : Int32) (p1 : Int32) : Ct z (wX z σ) rI eqA yX3_ruling cX3_ruling 6 (some .int) 2 0 0 [.ref 57, .int p0, .int p1] τ (Lw_ruling τ p0 p1) := by
  refine Ct.of (by decide) (Nat.le_of_ble_eq_true rfl) (fun ad x hC hR _ => ?_)
  show AT z x 6 (wX z σ) rI (eqA ad) 0 0 0 0 ad 0 [(0, .ref 57), (1, .int p0), (2, .int p1)] [] τ (Lw_ruling τ p0 p1)
  unfold Lw_ruling
  refine at_aload_n (j := 0) hC rfl rfl dX3_ruling_0 ?_
  refine gf_X3_36 hC dX3_ruling_1 ?_
  refine at_iconst hC ic_1 dX3_ruling_4 ?_
  refine at_isub hC dX3_ruling_5 ?_
  refine at_istore_n (lv' := [(3, .int ((τ.1 302) - 1)), (0, .ref 57), (1, .int p0), (2, .int p1)]) hC rfl dX3_ruling_6 (by decide) rfl ?_
  refine at_drop (lv' := [(0, .ref 57), (1, .int p0), (2, .int p1), (3, .int ((τ.1 302) - 1))]) [1, 2, 3, 0] rfl ?_
  exact t_Lw_ruling_L7 hC hR 100000 τ p0 p1 ((τ.1 302) - 1)
end G
