section G
variable {z : ZZ} {x : XX} {ad : Nat → Nat} {τ : XS}
theorem dX11_feed_0 : decode cX11_feed 0 = .ok (.iload_n 3, 1) := by decide +kernel
theorem dX11_feed_1 : decode cX11_feed 1 = .ok (.iconst 1, 1) := by decide +kernel
theorem dX11_feed_2 : decode cX11_feed 2 = .ok (.bipush 8, 2) := by decide +kernel
theorem dX11_feed_4 : decode cX11_feed 4 = .ok (.invokestatic 129, 3) := by decide +kernel
theorem dX11_feed_7 : decode cX11_feed 7 = .ok (.ifCond .ne 6, 3) := by decide +kernel
theorem dX11_feed_10 : decode cX11_feed 10 = .ok (.bipush (-2), 2) := by decide +kernel
theorem dX11_feed_12 : decode cX11_feed 12 = .ok (.ireturn, 1) := by decide +kernel
theorem dX11_feed_13 : decode cX11_feed 13 = .ok (.aload_n 0, 1) := by decide +kernel
theorem dX11_feed_14 : decode cX11_feed 14 = .ok (.getfield 224, 3) := by decide +kernel
theorem dX11_feed_17 : decode cX11_feed 17 = .ok (.iload_n 3, 1) := by decide +kernel
theorem dX11_feed_18 : decode cX11_feed 18 = .ok (.iadd, 1) := by decide +kernel
theorem dX11_feed_19 : decode cX11_feed 19 = .ok (.sipush 200, 3) := by decide +kernel
theorem dX11_feed_22 : decode cX11_feed 22 = .ok (.if_icmp .le 6, 3) := by decide +kernel
theorem dX11_feed_25 : decode cX11_feed 25 = .ok (.bipush (-4), 2) := by decide +kernel
theorem dX11_feed_27 : decode cX11_feed 27 = .ok (.ireturn, 1) := by decide +kernel
theorem dX11_feed_28 : decode cX11_feed 28 = .ok (.iload_n 3, 1) := by decide +kernel
theorem dX11_feed_29 : decode cX11_feed 29 = .ok (.iconst 1, 1) := by decide +kernel
theorem dX11_feed_30 : decode cX11_feed 30 = .ok (.isub, 1) := by decide +kernel
theorem dX11_feed_31 : decode cX11_feed 31 = .ok (.istore 4, 2) := by decide +kernel
theorem dX11_feed_33 : decode cX11_feed 33 = .ok (.iload 4, 2) := by decide +kernel
theorem dX11_feed_35 : decode cX11_feed 35 = .ok (.ifCond .lt 40, 3) := by decide +kernel
theorem dX11_feed_38 : decode cX11_feed 38 = .ok (.aload_n 0, 1) := by decide +kernel
theorem dX11_feed_39 : decode cX11_feed 39 = .ok (.getfield 39, 3) := by decide +kernel
theorem dX11_feed_42 : decode cX11_feed 42 = .ok (.aload_n 0, 1) := by decide +kernel
theorem dX11_feed_43 : decode cX11_feed 43 = .ok (.getfield 224, 3) := by decide +kernel
theorem dX11_feed_46 : decode cX11_feed 46 = .ok (.lload_n 1, 1) := by decide +kernel
theorem dX11_feed_47 : decode cX11_feed 47 = .ok (.bipush 8, 2) := by decide +kernel
theorem dX11_feed_49 : decode cX11_feed 49 = .ok (.iload 4, 2) := by decide +kernel
theorem dX11_feed_51 : decode cX11_feed 51 = .ok (.imul, 1) := by decide +kernel
theorem dX11_feed_52 : decode cX11_feed 52 = .ok (.lshr, 1) := by decide +kernel
theorem dX11_feed_53 : decode cX11_feed 53 = .ok (.ldc2_w 227, 3) := by decide +kernel
theorem dX11_feed_56 : decode cX11_feed 56 = .ok (.land, 1) := by decide +kernel
theorem dX11_feed_57 : decode cX11_feed 57 = .ok (.l2i, 1) := by decide +kernel
theorem dX11_feed_58 : decode cX11_feed 58 = .ok (.iastore, 1) := by decide +kernel
theorem dX11_feed_59 : decode cX11_feed 59 = .ok (.aload_n 0, 1) := by decide +kernel
theorem dX11_feed_60 : decode cX11_feed 60 = .ok (.dup, 1) := by decide +kernel
theorem dX11_feed_61 : decode cX11_feed 61 = .ok (.getfield 224, 3) := by decide +kernel
theorem dX11_feed_64 : decode cX11_feed 64 = .ok (.iconst 1, 1) := by decide +kernel
theorem dX11_feed_65 : decode cX11_feed 65 = .ok (.iadd, 1) := by decide +kernel
theorem dX11_feed_66 : decode cX11_feed 66 = .ok (.putfield 224, 3) := by decide +kernel
theorem dX11_feed_69 : decode cX11_feed 69 = .ok (.iinc 4 (-1), 3) := by decide +kernel
theorem dX11_feed_72 : decode cX11_feed 72 = .ok (.goto (-39), 3) := by decide +kernel
theorem dX11_feed_75 : decode cX11_feed 75 = .ok (.aload_n 0, 1) := by decide +kernel
theorem dX11_feed_76 : decode cX11_feed 76 = .ok (.getfield 224, 3) := by decide +kernel
theorem dX11_feed_79 : decode cX11_feed 79 = .ok (.ireturn, 1) := by decide +kernel
set_option maxRecDepth 100000 in
theorem t_M_feed_L33 (hC : CX z ad x cX11_feed RX11 5 (some .int)) (hR : x.2.2.1 = rmk 2 0 0) (n : Nat) (σ : MS) (a1 : Int64) (a4 : Int32) : AT z x 5 (wM z τ) rI (eqA ad) 0 0 0 0 ad 33 [(0, .ref 0), (1, .long a1), (4, .int a4)] [] σ (M_feed_L33 n σ a1 a4) := by
  revert σ a1 a4
  show ∀ (σ : MS) (a1 : Int64) (a4 : Int32), AT z x 5 (wM z τ) rI (eqA ad) 0 0 0 0 ad 33 [(0, .ref 0), (1, .long a1), (4, .int a4)] [] σ (M_feed_L33_r n σ a1 a4)
  induction n with
  | zero => intro σ a1 a4; exact at_none
  | succ n hk_33 =>
    intro σ a1 a4
    unfold M_feed_L33_r
    refine at_iload (j := 2) hC rfl dX11_feed_33 ?_
    refine at_if_lt (tgt := 75) hC dX11_feed_35 rfl (fun _ => ?_) (fun _ => ?_)
    · refine at_aload_n (j := 0) hC rfl rfl dX11_feed_75 ?_
      refine gf_X11_224 hC dX11_feed_76 ?_
      exact at_iret (F := eqA ad) (ra := rI) hC dX11_feed_79 rfl (Nat.le_refl 0) (Nat.le_refl 0) rfl
    · refine at_aload_n (j := 0) hC rfl rfl dX11_feed_38 ?_
      refine gf_X11_39 hC dX11_feed_39 ?_
      refine at_aload_n (j := 0) hC rfl rfl dX11_feed_42 ?_
      refine gf_X11_224 hC dX11_feed_43 ?_
      refine at_lload_n (j := 1) hC rfl rfl dX11_feed_46 ?_
      refine at_bipush hC bi_8 dX11_feed_47 ?_
      refine at_iload (j := 2) hC rfl dX11_feed_49 ?_
      refine at_imul hC dX11_feed_51 ?_
      refine at_lshr hC dX11_feed_52 ?_
      refine at_ldc2 hC kl_X11_227 dX11_feed_53 ?_
      refine at_land hC dX11_feed_56 ?_
      refine at_l2i hC dX11_feed_57 ?_
      refine at_iast hC 10 dX11_feed_58 cl_10 st_10 ?_
      refine at_aload_n (j := 0) hC rfl rfl dX11_feed_59 ?_
      refine at_dup hC rfl dX11_feed_60 ?_
      refine gf_X11_224 hC dX11_feed_61 ?_
      refine at_iconst hC ic_1 dX11_feed_64 ?_
      refine at_iadd hC dX11_feed_65 ?_
      refine pf_X11_224 hC dX11_feed_66 ?_
      refine at_iinc (j := 2) (v := a4 + (-1)) (lv' := [(4, .int (a4 + (-1))), (0, .ref 0), (1, .long a1)]) hC dX11_feed_69 rfl rfl (by decide) rfl ?_
      refine at_goto (tgt := 33) hC dX11_feed_72 rfl ?_
      refine at_drop (lv' := [(0, .ref 0), (1, .long a1), (4, .int (a4 + (-1)))]) [1, 2, 0] rfl ?_
      exact hk_33 (sI (sA σ 14 (upd (σ.2.1 14) (σ.1 15).toNatClampNeg (((a1 >>> ((8 * a4).toInt64 &&& 63)) &&& 255).toInt32))) 15 (((sA σ 14 (upd (σ.2.1 14) (σ.1 15).toNatClampNeg (((a1 >>> ((8 * a4).toInt64 &&& 63)) &&& 255).toInt32))).1 15) + 1)) a1 (a4 + (-1))
set_option maxRecDepth 100000 in
theorem c_M_feed (σ : MS) (p0 : Int64) (p1 : Int32) : Ct z (wM z τ) rI eqA yX11_feed cX11_feed 5 (some .int) 2 0 0 [.ref 0, .long p0, .int p1] σ (M_feed σ p0 p1) := by
  refine Ct.of (by decide) (Nat.le_of_ble_eq_true rfl) (fun ad x hC hR _ => ?_)
  show AT z x 5 (wM z τ) rI (eqA ad) 0 0 0 0 ad 0 [(0, .ref 0), (1, .long p0), (3, .int p1)] [] σ (M_feed σ p0 p1)
  unfold M_feed
  refine at_iload_n (j := 2) hC rfl rfl dX11_feed_0 ?_
  refine at_iconst hC ic_1 dX11_feed_1 ?_
  refine at_bipush hC bi_8 dX11_feed_2 ?_
  refine at_callSpI hC hR lk_X11_129 (c_M_in σ p1 1 8) dX11_feed_4 rfl rfl ⟨by decide, by decide⟩ (Nat.le_of_ble_eq_true rfl) ⟨Nat.le_refl 0, Nat.le_refl 0⟩ (fun r1 _ => ?_)
  refine at_if_ne (tgt := 13) hC dX11_feed_7 rfl (fun _ => ?_) (fun _ => ?_)
  · refine at_aload_n (j := 0) hC rfl rfl dX11_feed_13 ?_
    refine gf_X11_224 hC dX11_feed_14 ?_
    refine at_iload_n (j := 2) hC rfl rfl dX11_feed_17 ?_
    refine at_iadd hC dX11_feed_18 ?_
    refine at_sipush hC si_200 dX11_feed_19 ?_
    refine at_icmp_le (tgt := 28) hC dX11_feed_22 rfl (fun _ => ?_) (fun _ => ?_)
    · refine at_iload_n (j := 2) hC rfl rfl dX11_feed_28 ?_
      refine at_iconst hC ic_1 dX11_feed_29 ?_
      refine at_isub hC dX11_feed_30 ?_
      refine at_istore (lv' := [(4, .int (p1 - 1)), (0, .ref 0), (1, .long p0), (3, .int p1)]) hC dX11_feed_31 (by decide) rfl ?_
      refine at_drop (lv' := [(0, .ref 0), (1, .long p0), (4, .int (p1 - 1))]) [1, 2, 0] rfl ?_
      exact t_M_feed_L33 hC hR 100000 σ p0 (p1 - 1)
    · refine at_bipush hC bi_m4 dX11_feed_25 ?_
      exact at_iret (F := eqA ad) (ra := rI) hC dX11_feed_27 rfl (Nat.le_refl 0) (Nat.le_refl 0) rfl
  · refine at_bipush hC bi_m2 dX11_feed_10 ?_
    exact at_iret (F := eqA ad) (ra := rI) hC dX11_feed_12 rfl (Nat.le_refl 0) (Nat.le_refl 0) rfl
theorem dX11_readsClause_0 : decode cX11_readsClause 0 = .ok (.bipush 8, 2) := by decide +kernel
theorem dX11_readsClause_2 : decode cX11_readsClause 2 = .ok (.iload_n 1, 1) := by decide +kernel
theorem dX11_readsClause_3 : decode cX11_readsClause 3 = .ok (.imul, 1) := by decide +kernel
theorem dX11_readsClause_4 : decode cX11_readsClause 4 = .ok (.aload_n 0, 1) := by decide +kernel
theorem dX11_readsClause_5 : decode cX11_readsClause 5 = .ok (.getfield 45, 3) := by decide +kernel
theorem dX11_readsClause_8 : decode cX11_readsClause 8 = .ok (.iload_n 1, 1) := by decide +kernel
theorem dX11_readsClause_9 : decode cX11_readsClause 9 = .ok (.iaload, 1) := by decide +kernel
theorem dX11_readsClause_10 : decode cX11_readsClause 10 = .ok (.iadd, 1) := by decide +kernel
theorem dX11_readsClause_11 : decode cX11_readsClause 11 = .ok (.istore_n 3, 1) := by decide +kernel
theorem dX11_readsClause_12 : decode cX11_readsClause 12 = .ok (.aload_n 0, 1) := by decide +kernel
theorem dX11_readsClause_13 : decode cX11_readsClause 13 = .ok (.getfield 52, 3) := by decide +kernel
theorem dX11_readsClause_16 : decode cX11_readsClause 16 = .ok (.iload_n 3, 1) := by decide +kernel
theorem dX11_readsClause_17 : decode cX11_readsClause 17 = .ok (.iload_n 2, 1) := by decide +kernel
theorem dX11_readsClause_18 : decode cX11_readsClause 18 = .ok (.iastore, 1) := by decide +kernel
theorem dX11_readsClause_19 : decode cX11_readsClause 19 = .ok (.aload_n 0, 1) := by decide +kernel
theorem dX11_readsClause_20 : decode cX11_readsClause 20 = .ok (.getfield 55, 3) := by decide +kernel
theorem dX11_readsClause_23 : decode cX11_readsClause 23 = .ok (.iload_n 3, 1) := by decide +kernel
theorem dX11_readsClause_24 : decode cX11_readsClause 24 = .ok (.sipush 10000, 3) := by decide +kernel
theorem dX11_readsClause_27 : decode cX11_readsClause 27 = .ok (.iastore, 1) := by decide +kernel
theorem dX11_readsClause_28 : decode cX11_readsClause 28 = .ok (.aload_n 0, 1) := by decide +kernel
theorem dX11_readsClause_29 : decode cX11_readsClause 29 = .ok (.bipush 61, 2) := by decide +kernel
theorem dX11_readsClause_31 : decode cX11_readsClause 31 = .ok (.invokevirtual 296, 3) := by decide +kernel
theorem dX11_readsClause_34 : decode cX11_readsClause 34 = .ok (.aload_n 0, 1) := by decide +kernel
theorem dX11_readsClause_35 : decode cX11_readsClause 35 = .ok (.getfield 61, 3) := by decide +kernel
theorem dX11_readsClause_38 : decode cX11_readsClause 38 = .ok (.iload_n 3, 1) := by decide +kernel
theorem dX11_readsClause_39 : decode cX11_readsClause 39 = .ok (.aload_n 0, 1) := by decide +kernel
theorem dX11_readsClause_40 : decode cX11_readsClause 40 = .ok (.getfield 229, 3) := by decide +kernel
theorem dX11_readsClause_43 : decode cX11_readsClause 43 = .ok (.iastore, 1) := by decide +kernel
theorem dX11_readsClause_44 : decode cX11_readsClause 44 = .ok (.aload_n 0, 1) := by decide +kernel
theorem dX11_readsClause_45 : decode cX11_readsClause 45 = .ok (.invokevirtual 293, 3) := by decide +kernel
theorem dX11_readsClause_48 : decode cX11_readsClause 48 = .ok (.istore 4, 2) := by decide +kernel
theorem dX11_readsClause_50 : decode cX11_readsClause 50 = .ok (.aload_n 0, 1) := by decide +kernel
theorem dX11_readsClause_51 : decode cX11_readsClause 51 = .ok (.getfield 64, 3) := by decide +kernel
theorem dX11_readsClause_54 : decode cX11_readsClause 54 = .ok (.iload_n 3, 1) := by decide +kernel
theorem dX11_readsClause_55 : decode cX11_readsClause 55 = .ok (.iconst (-1), 1) := by decide +kernel
theorem dX11_readsClause_56 : decode cX11_readsClause 56 = .ok (.iastore, 1) := by decide +kernel
theorem dX11_readsClause_57 : decode cX11_readsClause 57 = .ok (.aload_n 0, 1) := by decide +kernel
theorem dX11_readsClause_58 : decode cX11_readsClause 58 = .ok (.getfield 235, 3) := by decide +kernel
theorem dX11_readsClause_61 : decode cX11_readsClause 61 = .ok (.ifCond .ne 35, 3) := by decide +kernel
theorem dX11_readsClause_64 : decode cX11_readsClause 64 = .ok (.aload_n 0, 1) := by decide +kernel
theorem dX11_readsClause_65 : decode cX11_readsClause 65 = .ok (.invokevirtual 239, 3) := by decide +kernel
theorem dX11_readsClause_68 : decode cX11_readsClause 68 = .ok (.bipush 32, 2) := by decide +kernel
theorem dX11_readsClause_70 : decode cX11_readsClause 70 = .ok (.if_icmp .ne 26, 3) := by decide +kernel
theorem dX11_readsClause_73 : decode cX11_readsClause 73 = .ok (.aload_n 0, 1) := by decide +kernel
theorem dX11_readsClause_74 : decode cX11_readsClause 74 = .ok (.ldc_w 317, 3) := by decide +kernel
theorem dX11_readsClause_77 : decode cX11_readsClause 77 = .ok (.invokevirtual 313, 3) := by decide +kernel
theorem dX11_readsClause_80 : decode cX11_readsClause 80 = .ok (.aload_n 0, 1) := by decide +kernel
theorem dX11_readsClause_81 : decode cX11_readsClause 81 = .ok (.getfield 64, 3) := by decide +kernel
theorem dX11_readsClause_84 : decode cX11_readsClause 84 = .ok (.iload_n 3, 1) := by decide +kernel
theorem dX11_readsClause_85 : decode cX11_readsClause 85 = .ok (.aload_n 0, 1) := by decide +kernel
theorem dX11_readsClause_86 : decode cX11_readsClause 86 = .ok (.getfield 229, 3) := by decide +kernel
theorem dX11_readsClause_89 : decode cX11_readsClause 89 = .ok (.iastore, 1) := by decide +kernel
theorem dX11_readsClause_90 : decode cX11_readsClause 90 = .ok (.aload_n 0, 1) := by decide +kernel
theorem dX11_readsClause_91 : decode cX11_readsClause 91 = .ok (.invokevirtual 319, 3) := by decide +kernel
theorem dX11_readsClause_94 : decode cX11_readsClause 94 = .ok (.istore 5, 2) := by decide +kernel
theorem dX11_readsClause_96 : decode cX11_readsClause 96 = .ok (.aload_n 0, 1) := by decide +kernel
theorem dX11_readsClause_97 : decode cX11_readsClause 97 = .ok (.getfield 45, 3) := by decide +kernel
theorem dX11_readsClause_100 : decode cX11_readsClause 100 = .ok (.iload_n 1, 1) := by decide +kernel
theorem dX11_readsClause_101 : decode cX11_readsClause 101 = .ok (.dup2, 1) := by decide +kernel
theorem dX11_readsClause_102 : decode cX11_readsClause 102 = .ok (.iaload, 1) := by decide +kernel
theorem dX11_readsClause_103 : decode cX11_readsClause 103 = .ok (.iconst 1, 1) := by decide +kernel
theorem dX11_readsClause_104 : decode cX11_readsClause 104 = .ok (.iadd, 1) := by decide +kernel
theorem dX11_readsClause_105 : decode cX11_readsClause 105 = .ok (.iastore, 1) := by decide +kernel
theorem dX11_readsClause_106 : decode cX11_readsClause 106 = .ok (.return_, 1) := by decide +kernel
set_option maxRecDepth 100000 in
theorem t_M_readsClause_J96 (hC : CX z ad x cX11_readsClause RX11 6 none) (hR : x.2.2.1 = rmk 615 0 0) (σ : MS) (a1 : Int32) : AT z x 6 (wM z τ) rU (eqA ad) 0 0 0 0 ad 96 [(0, .ref 0), (1, .int a1)] [] σ (M_readsClause_J96 σ a1) := by
  unfold M_readsClause_J96
  refine at_aload_n (j := 0) hC rfl rfl dX11_readsClause_96 ?_
  refine gf_X11_45 hC dX11_readsClause_97 ?_
  refine at_iload_n (j := 1) hC rfl rfl dX11_readsClause_100 ?_
  refine at_dup2 hC rfl rfl dX11_readsClause_101 ?_
  refine at_iald hC 12 dX11_readsClause_102 cl_12 (fun v4 => ?_)
  refine at_iconst hC ic_1 dX11_readsClause_103 ?_
  refine at_iadd hC dX11_readsClause_104 ?_
  refine at_iast hC 12 dX11_readsClause_105 cl_12 st_12 ?_
  exact at_vret (F := eqA ad) (ra := rU) hC dX11_readsClause_106 rfl (Nat.le_refl 0) (Nat.le_refl 0) rfl
set_option maxRecDepth 100000 in
theorem c_M_readsClause (σ : MS) (p0 : Int32) (p1 : Int32) : Ct z (wM z τ) rU eqA yX11_readsClause cX11_readsClause 6 none 615 0 0 [.ref 0, .int p0, .int p1] σ (M_readsClause σ p0 p1) := by
  refine Ct.of (by decide) (Nat.le_of_ble_eq_true rfl) (fun ad x hC hR _ => ?_)
  show AT z x 6 (wM z τ) rU (eqA ad) 0 0 0 0 ad 0 [(0, .ref 0), (1, .int p0), (2, .int p1)] [] σ (M_readsClause σ p0 p1)
  unfold M_readsClause
  refine at_bipush hC bi_8 dX11_readsClause_0 ?_
  refine at_iload_n (j := 1) hC rfl rfl dX11_readsClause_2 ?_
  refine at_imul hC dX11_readsClause_3 ?_
  refine at_aload_n (j := 0) hC rfl rfl dX11_readsClause_4 ?_
  refine gf_X11_45 hC dX11_readsClause_5 ?_
  refine at_iload_n (j := 1) hC rfl rfl dX11_readsClause_8 ?_
  refine at_iald hC 12 dX11_readsClause_9 cl_12 (fun v1 => ?_)
  refine at_iadd hC dX11_readsClause_10 ?_
  refine at_istore_n (lv' := [(3, .int ((8 * p0) + v1)), (0, .ref 0), (1, .int p0), (2, .int p1)]) hC rfl dX11_readsClause_11 (by decide) rfl ?_
  refine at_aload_n (j := 1) hC rfl rfl dX11_readsClause_12 ?_
  refine gf_X11_52 hC dX11_readsClause_13 ?_
  refine at_iload_n (j := 0) hC rfl rfl dX11_readsClause_16 ?_
  refine at_iload_n (j := 3) hC rfl rfl dX11_readsClause_17 ?_
  refine at_iast hC 14 dX11_readsClause_18 cl_14 st_14 ?_
  refine at_aload_n (j := 1) hC rfl rfl dX11_readsClause_19 ?_
  refine gf_X11_55 hC dX11_readsClause_20 ?_
  refine at_iload_n (j := 0) hC rfl rfl dX11_readsClause_23 ?_
  refine at_sipush hC si_10000 dX11_readsClause_24 ?_
  refine at_iast hC 15 dX11_readsClause_27 cl_15 st_15 ?_
  refine at_aload_n (j := 1) hC rfl rfl dX11_readsClause_28 ?_
  refine at_bipush hC bi_61 dX11_readsClause_29 ?_
  refine at_callVU hC hR lk_X11_296 (c_M_must (sA (sA σ 20 (upd (σ.2.1 20) ((8 * p0) + v1).toNatClampNeg p1)) 21 (upd ((sA σ 20 (upd (σ.2.1 20) ((8 * p0) + v1).toNatClampNeg p1)).2.1 21) ((8 * p0) + v1).toNatClampNeg 10000)) 61) dX11_readsClause_31 recX11 rfl rfl ⟨by decide, by decide⟩ (Nat.le_of_ble_eq_true rfl) ⟨Nat.le_refl 0, Nat.le_refl 0⟩ (fun r2 r2s _ => ?_)
  refine at_aload_n (j := 1) hC rfl rfl dX11_readsClause_34 ?_
  refine gf_X11_61 hC dX11_readsClause_35 ?_
  refine at_iload_n (j := 0) hC rfl rfl dX11_readsClause_38 ?_
  refine at_aload_n (j := 1) hC rfl rfl dX11_readsClause_39 ?_
  refine gf_X11_229 hC dX11_readsClause_40 ?_
  refine at_iast hC 17 dX11_readsClause_43 cl_17 st_17 ?_
  refine at_aload_n (j := 1) hC rfl rfl dX11_readsClause_44 ?_
  refine at_callVI hC hR lk_X11_293 (c_M_sums (M_oneR 200) (c_M_oneR 200) (sA r2s 23 (upd (r2s.2.1 23) ((8 * p0) + v1).toNatClampNeg (r2s.1 47)))) dX11_readsClause_45 recX11 rfl rfl ⟨by decide, by decide⟩ (Nat.le_of_ble_eq_true rfl) ⟨Nat.le_refl 0, Nat.le_refl 0⟩ (fun r3 r3s _ => ?_)
  refine at_istore (lv' := [(4, .int r3), (3, .int ((8 * p0) + v1)), (0, .ref 0), (1, .int p0), (2, .int p1)]) hC dX11_readsClause_48 (by decide) rfl ?_
  refine at_aload_n (j := 2) hC rfl rfl dX11_readsClause_50 ?_
  refine gf_X11_64 hC dX11_readsClause_51 ?_
  refine at_iload_n (j := 1) hC rfl rfl dX11_readsClause_54 ?_
  refine at_iconst hC ic_m1 dX11_readsClause_55 ?_
  refine at_iast hC 18 dX11_readsClause_56 cl_18 st_18 ?_
  refine at_aload_n (j := 2) hC rfl rfl dX11_readsClause_57 ?_
  refine gf_X11_235 hC dX11_readsClause_58 ?_
  refine at_if_ne (tgt := 96) hC dX11_readsClause_61 rfl (fun _ => ?_) (fun _ => ?_)
  · refine at_drop (lv' := [(0, .ref 0), (1, .int p0)]) [2, 3] rfl ?_
    exact t_M_readsClause_J96 hC hR (sA r3s 24 (upd (r3s.2.1 24) ((8 * p0) + v1).toNatClampNeg (-1))) p0
  · refine at_aload_n (j := 2) hC rfl rfl dX11_readsClause_64 ?_
    refine at_callVpI hC hR lk_X11_239 (c_M_byteAt (sA r3s 24 (upd (r3s.2.1 24) ((8 * p0) + v1).toNatClampNeg (-1)))) dX11_readsClause_65 recX11 rfl rfl ⟨by decide, by decide⟩ (Nat.le_of_ble_eq_true rfl) ⟨Nat.le_refl 0, Nat.le_refl 0⟩ (fun r5 _ => ?_)
    refine at_bipush hC bi_32 dX11_readsClause_68 ?_
    refine at_icmp_ne (tgt := 96) hC dX11_readsClause_70 rfl (fun _ => ?_) (fun _ => ?_)
    · refine at_drop (lv' := [(0, .ref 0), (1, .int p0)]) [2, 3] rfl ?_
      exact t_M_readsClause_J96 hC hR (sA r3s 24 (upd (r3s.2.1 24) ((8 * p0) + v1).toNatClampNeg (-1))) p0
    · refine at_aload_n (j := 2) hC rfl rfl dX11_readsClause_73 ?_
      refine at_ldcwS (m := 1000004) hC 22 rfl rfl dX11_readsClause_74 ?_
      refine at_callVU hC hR lk_X11_313 (c_M_musts (sA r3s 24 (upd (r3s.2.1 24) ((8 * p0) + v1).toNatClampNeg (-1))) 1000004) dX11_readsClause_77 recX11 rfl rfl ⟨by decide, by decide⟩ (Nat.le_of_ble_eq_true rfl) ⟨Nat.le_refl 0, Nat.le_refl 0⟩ (fun r6 r6s _ => ?_)
      refine at_aload_n (j := 2) hC rfl rfl dX11_readsClause_80 ?_
      refine gf_X11_64 hC dX11_readsClause_81 ?_
      refine at_iload_n (j := 1) hC rfl rfl dX11_readsClause_84 ?_
      refine at_aload_n (j := 2) hC rfl rfl dX11_readsClause_85 ?_
      refine gf_X11_229 hC dX11_readsClause_86 ?_
      refine at_iast hC 18 dX11_readsClause_89 cl_18 st_18 ?_
      refine at_aload_n (j := 2) hC rfl rfl dX11_readsClause_90 ?_
      refine at_callVI hC hR lk_X11_319 (c_M_tests (sA r6s 24 (upd (r6s.2.1 24) ((8 * p0) + v1).toNatClampNeg (r6s.1 47)))) dX11_readsClause_91 recX11 rfl rfl ⟨by decide, by decide⟩ (Nat.le_of_ble_eq_true rfl) ⟨Nat.le_refl 0, Nat.le_refl 0⟩ (fun r7 r7s _ => ?_)
      refine at_istore (lv' := [(5, .int r7), (4, .int r3), (3, .int ((8 * p0) + v1)), (0, .ref 0), (1, .int p0), (2, .int p1)]) hC dX11_readsClause_94 (by decide) rfl ?_
      refine at_drop (lv' := [(0, .ref 0), (1, .int p0)]) [3, 4] rfl ?_
      exact t_M_readsClause_J96 hC hR r7s p0
theorem dX11_readsAct_0 : decode cX11_readsAct 0 = .ok (.aload_n 0, 1) := by decide +kernel
theorem dX11_readsAct_1 : decode cX11_readsAct 1 = .ok (.getfield 67, 3) := by decide +kernel
theorem dX11_readsAct_4 : decode cX11_readsAct 4 = .ok (.iload_n 1, 1) := by decide +kernel
theorem dX11_readsAct_5 : decode cX11_readsAct 5 = .ok (.aload_n 0, 1) := by decide +kernel
theorem dX11_readsAct_6 : decode cX11_readsAct 6 = .ok (.getfield 224, 3) := by decide +kernel
theorem dX11_readsAct_9 : decode cX11_readsAct 9 = .ok (.iastore, 1) := by decide +kernel
theorem dX11_readsAct_10 : decode cX11_readsAct 10 = .ok (.iconst 0, 1) := by decide +kernel
theorem dX11_readsAct_11 : decode cX11_readsAct 11 = .ok (.istore_n 2, 1) := by decide +kernel
theorem dX11_readsAct_12 : decode cX11_readsAct 12 = .ok (.iload_n 2, 1) := by decide +kernel
theorem dX11_readsAct_13 : decode cX11_readsAct 13 = .ok (.aload_n 0, 1) := by decide +kernel
theorem dX11_readsAct_14 : decode cX11_readsAct 14 = .ok (.getfield 224, 3) := by decide +kernel
theorem dX11_readsAct_17 : decode cX11_readsAct 17 = .ok (.if_icmp .ge 27, 3) := by decide +kernel
theorem dX11_readsAct_20 : decode cX11_readsAct 20 = .ok (.aload_n 0, 1) := by decide +kernel
theorem dX11_readsAct_21 : decode cX11_readsAct 21 = .ok (.getfield 58, 3) := by decide +kernel
theorem dX11_readsAct_24 : decode cX11_readsAct 24 = .ok (.sipush 200, 3) := by decide +kernel
theorem dX11_readsAct_27 : decode cX11_readsAct 27 = .ok (.iload_n 1, 1) := by decide +kernel
theorem dX11_readsAct_28 : decode cX11_readsAct 28 = .ok (.imul, 1) := by decide +kernel
theorem dX11_readsAct_29 : decode cX11_readsAct 29 = .ok (.iload_n 2, 1) := by decide +kernel
theorem dX11_readsAct_30 : decode cX11_readsAct 30 = .ok (.iadd, 1) := by decide +kernel
theorem dX11_readsAct_31 : decode cX11_readsAct 31 = .ok (.aload_n 0, 1) := by decide +kernel
theorem dX11_readsAct_32 : decode cX11_readsAct 32 = .ok (.getfield 39, 3) := by decide +kernel
theorem dX11_readsAct_35 : decode cX11_readsAct 35 = .ok (.iload_n 2, 1) := by decide +kernel
theorem dX11_readsAct_36 : decode cX11_readsAct 36 = .ok (.iaload, 1) := by decide +kernel
theorem dX11_readsAct_37 : decode cX11_readsAct 37 = .ok (.iastore, 1) := by decide +kernel
theorem dX11_readsAct_38 : decode cX11_readsAct 38 = .ok (.iinc 2 1, 3) := by decide +kernel
theorem dX11_readsAct_41 : decode cX11_readsAct 41 = .ok (.goto (-29), 3) := by decide +kernel
theorem dX11_readsAct_44 : decode cX11_readsAct 44 = .ok (.aload_n 0, 1) := by decide +kernel
theorem dX11_readsAct_45 : decode cX11_readsAct 45 = .ok (.iload_n 1, 1) := by decide +kernel
theorem dX11_readsAct_46 : decode cX11_readsAct 46 = .ok (.putfield 232, 3) := by decide +kernel
theorem dX11_readsAct_49 : decode cX11_readsAct 49 = .ok (.aload_n 0, 1) := by decide +kernel
theorem dX11_readsAct_50 : decode cX11_readsAct 50 = .ok (.iconst 0, 1) := by decide +kernel
theorem dX11_readsAct_51 : decode cX11_readsAct 51 = .ok (.putfield 229, 3) := by decide +kernel
theorem dX11_readsAct_54 : decode cX11_readsAct 54 = .ok (.aload_n 0, 1) := by decide +kernel
theorem dX11_readsAct_55 : decode cX11_readsAct 55 = .ok (.iconst 0, 1) := by decide +kernel
theorem dX11_readsAct_56 : decode cX11_readsAct 56 = .ok (.putfield 235, 3) := by decide +kernel
theorem dX11_readsAct_59 : decode cX11_readsAct 59 = .ok (.aload_n 0, 1) := by decide +kernel
theorem dX11_readsAct_60 : decode cX11_readsAct 60 = .ok (.getfield 45, 3) := by decide +kernel
theorem dX11_readsAct_63 : decode cX11_readsAct 63 = .ok (.iload_n 1, 1) := by decide +kernel
theorem dX11_readsAct_64 : decode cX11_readsAct 64 = .ok (.iconst 0, 1) := by decide +kernel
theorem dX11_readsAct_65 : decode cX11_readsAct 65 = .ok (.iastore, 1) := by decide +kernel
theorem dX11_readsAct_66 : decode cX11_readsAct 66 = .ok (.aload_n 0, 1) := by decide +kernel
theorem dX11_readsAct_67 : decode cX11_readsAct 67 = .ok (.iconst 0, 1) := by decide +kernel
theorem dX11_readsAct_68 : decode cX11_readsAct 68 = .ok (.bipush 9, 2) := by decide +kernel
theorem dX11_readsAct_70 : decode cX11_readsAct 70 = .ok (.invokevirtual 299, 3) := by decide +kernel
theorem dX11_readsAct_73 : decode cX11_readsAct 73 = .ok (.istore_n 2, 1) := by decide +kernel
theorem dX11_readsAct_74 : decode cX11_readsAct 74 = .ok (.aload_n 0, 1) := by decide +kernel
theorem dX11_readsAct_75 : decode cX11_readsAct 75 = .ok (.getfield 48, 3) := by decide +kernel
theorem dX11_readsAct_78 : decode cX11_readsAct 78 = .ok (.iload_n 1, 1) := by decide +kernel
theorem dX11_readsAct_79 : decode cX11_readsAct 79 = .ok (.aload_n 0, 1) := by decide +kernel
theorem dX11_readsAct_80 : decode cX11_readsAct 80 = .ok (.getfield 235, 3) := by decide +kernel
theorem dX11_readsAct_83 : decode cX11_readsAct 83 = .ok (.ifCond .ne 13, 3) := by decide +kernel
theorem dX11_readsAct_86 : decode cX11_readsAct 86 = .ok (.iload_n 2, 1) := by decide +kernel
theorem dX11_readsAct_87 : decode cX11_readsAct 87 = .ok (.bipush 9, 2) := by decide +kernel
theorem dX11_readsAct_89 : decode cX11_readsAct 89 = .ok (.if_icmp .ne 7, 3) := by decide +kernel
theorem dX11_readsAct_92 : decode cX11_readsAct 92 = .ok (.iconst 1, 1) := by decide +kernel
theorem dX11_readsAct_93 : decode cX11_readsAct 93 = .ok (.goto 4, 3) := by decide +kernel
theorem dX11_readsAct_96 : decode cX11_readsAct 96 = .ok (.iconst 0, 1) := by decide +kernel
theorem dX11_readsAct_97 : decode cX11_readsAct 97 = .ok (.bastore, 1) := by decide +kernel
theorem dX11_readsAct_98 : decode cX11_readsAct 98 = .ok (.aload_n 0, 1) := by decide +kernel
theorem dX11_readsAct_99 : decode cX11_readsAct 99 = .ok (.getfield 48, 3) := by decide +kernel
theorem dX11_readsAct_102 : decode cX11_readsAct 102 = .ok (.iload_n 1, 1) := by decide +kernel
theorem dX11_readsAct_103 : decode cX11_readsAct 103 = .ok (.baload, 1) := by decide +kernel
theorem dX11_readsAct_104 : decode cX11_readsAct 104 = .ok (.ifCond .eq 11, 3) := by decide +kernel
theorem dX11_readsAct_107 : decode cX11_readsAct 107 = .ok (.aload_n 0, 1) := by decide +kernel
theorem dX11_readsAct_108 : decode cX11_readsAct 108 = .ok (.iconst 0, 1) := by decide +kernel
theorem dX11_readsAct_109 : decode cX11_readsAct 109 = .ok (.bipush 8, 2) := by decide +kernel
theorem dX11_readsAct_111 : decode cX11_readsAct 111 = .ok (.invokevirtual 299, 3) := by decide +kernel
theorem dX11_readsAct_114 : decode cX11_readsAct 114 = .ok (.istore_n 2, 1) := by decide +kernel
theorem dX11_readsAct_115 : decode cX11_readsAct 115 = .ok (.aload_n 0, 1) := by decide +kernel
theorem dX11_readsAct_116 : decode cX11_readsAct 116 = .ok (.iload_n 1, 1) := by decide +kernel
theorem dX11_readsAct_117 : decode cX11_readsAct 117 = .ok (.iload_n 2, 1) := by decide +kernel
theorem dX11_readsAct_118 : decode cX11_readsAct 118 = .ok (.invokevirtual 322, 3) := by decide +kernel
theorem dX11_readsAct_121 : decode cX11_readsAct 121 = .ok (.aload_n 0, 1) := by decide +kernel
theorem dX11_readsAct_122 : decode cX11_readsAct 122 = .ok (.getfield 235, 3) := by decide +kernel
theorem dX11_readsAct_125 : decode cX11_readsAct 125 = .ok (.ifCond .ne 50, 3) := by decide +kernel
theorem dX11_readsAct_128 : decode cX11_readsAct 128 = .ok (.aload_n 0, 1) := by decide +kernel
theorem dX11_readsAct_129 : decode cX11_readsAct 129 = .ok (.getfield 45, 3) := by decide +kernel
theorem dX11_readsAct_132 : decode cX11_readsAct 132 = .ok (.iload_n 1, 1) := by decide +kernel
theorem dX11_readsAct_133 : decode cX11_readsAct 133 = .ok (.iaload, 1) := by decide +kernel
theorem dX11_readsAct_134 : decode cX11_readsAct 134 = .ok (.bipush 8, 2) := by decide +kernel
theorem dX11_readsAct_136 : decode cX11_readsAct 136 = .ok (.if_icmp .ge 39, 3) := by decide +kernel
theorem dX11_readsAct_139 : decode cX11_readsAct 139 = .ok (.aload_n 0, 1) := by decide +kernel
theorem dX11_readsAct_140 : decode cX11_readsAct 140 = .ok (.invokevirtual 239, 3) := by decide +kernel
theorem dX11_readsAct_143 : decode cX11_readsAct 143 = .ok (.bipush 59, 2) := by decide +kernel
theorem dX11_readsAct_145 : decode cX11_readsAct 145 = .ok (.if_icmp .ne 30, 3) := by decide +kernel
theorem dX11_readsAct_148 : decode cX11_readsAct 148 = .ok (.aload_n 0, 1) := by decide +kernel
theorem dX11_readsAct_149 : decode cX11_readsAct 149 = .ok (.dup, 1) := by decide +kernel
theorem dX11_readsAct_150 : decode cX11_readsAct 150 = .ok (.getfield 229, 3) := by decide +kernel
theorem dX11_readsAct_153 : decode cX11_readsAct 153 = .ok (.iconst 1, 1) := by decide +kernel
theorem dX11_readsAct_154 : decode cX11_readsAct 154 = .ok (.iadd, 1) := by decide +kernel
theorem dX11_readsAct_155 : decode cX11_readsAct 155 = .ok (.putfield 229, 3) := by decide +kernel
theorem dX11_readsAct_158 : decode cX11_readsAct 158 = .ok (.aload_n 0, 1) := by decide +kernel
theorem dX11_readsAct_159 : decode cX11_readsAct 159 = .ok (.iconst 0, 1) := by decide +kernel
theorem dX11_readsAct_160 : decode cX11_readsAct 160 = .ok (.bipush 8, 2) := by decide +kernel
theorem dX11_readsAct_162 : decode cX11_readsAct 162 = .ok (.invokevirtual 299, 3) := by decide +kernel
theorem dX11_readsAct_165 : decode cX11_readsAct 165 = .ok (.istore_n 3, 1) := by decide +kernel
theorem dX11_readsAct_166 : decode cX11_readsAct 166 = .ok (.aload_n 0, 1) := by decide +kernel
theorem dX11_readsAct_167 : decode cX11_readsAct 167 = .ok (.iload_n 1, 1) := by decide +kernel
theorem dX11_readsAct_168 : decode cX11_readsAct 168 = .ok (.iload_n 3, 1) := by decide +kernel
theorem dX11_readsAct_169 : decode cX11_readsAct 169 = .ok (.invokevirtual 322, 3) := by decide +kernel
theorem dX11_readsAct_172 : decode cX11_readsAct 172 = .ok (.goto (-51), 3) := by decide +kernel
theorem dX11_readsAct_175 : decode cX11_readsAct 175 = .ok (.aload_n 0, 1) := by decide +kernel
theorem dX11_readsAct_176 : decode cX11_readsAct 176 = .ok (.aload_n 0, 1) := by decide +kernel
theorem dX11_readsAct_177 : decode cX11_readsAct 177 = .ok (.getfield 235, 3) := by decide +kernel
theorem dX11_readsAct_180 : decode cX11_readsAct 180 = .ok (.ifCond .ne 16, 3) := by decide +kernel
theorem dX11_readsAct_183 : decode cX11_readsAct 183 = .ok (.aload_n 0, 1) := by decide +kernel
theorem dX11_readsAct_184 : decode cX11_readsAct 184 = .ok (.getfield 229, 3) := by decide +kernel
theorem dX11_readsAct_187 : decode cX11_readsAct 187 = .ok (.aload_n 0, 1) := by decide +kernel
theorem dX11_readsAct_188 : decode cX11_readsAct 188 = .ok (.getfield 67, 3) := by decide +kernel
theorem dX11_readsAct_191 : decode cX11_readsAct 191 = .ok (.iload_n 1, 1) := by decide +kernel
theorem dX11_readsAct_192 : decode cX11_readsAct 192 = .ok (.iaload, 1) := by decide +kernel
theorem dX11_readsAct_193 : decode cX11_readsAct 193 = .ok (.if_icmp .eq 7, 3) := by decide +kernel
theorem dX11_readsAct_196 : decode cX11_readsAct 196 = .ok (.iconst 1, 1) := by decide +kernel
theorem dX11_readsAct_197 : decode cX11_readsAct 197 = .ok (.goto 4, 3) := by decide +kernel
theorem dX11_readsAct_200 : decode cX11_readsAct 200 = .ok (.iconst 0, 1) := by decide +kernel
theorem dX11_readsAct_201 : decode cX11_readsAct 201 = .ok (.putfield 235, 3) := by decide +kernel
theorem dX11_readsAct_204 : decode cX11_readsAct 204 = .ok (.aload_n 0, 1) := by decide +kernel
theorem dX11_readsAct_205 : decode cX11_readsAct 205 = .ok (.getfield 235, 3) := by decide +kernel
theorem dX11_readsAct_208 : decode cX11_readsAct 208 = .ok (.ifCond .ne 7, 3) := by decide +kernel
theorem dX11_readsAct_211 : decode cX11_readsAct 211 = .ok (.iconst 1, 1) := by decide +kernel
theorem dX11_readsAct_212 : decode cX11_readsAct 212 = .ok (.goto 4, 3) := by decide +kernel
theorem dX11_readsAct_215 : decode cX11_readsAct 215 = .ok (.iconst 0, 1) := by decide +kernel
theorem dX11_readsAct_216 : decode cX11_readsAct 216 = .ok (.ireturn, 1) := by decide +kernel
set_option maxRecDepth 100000 in
theorem t_M_readsAct_J201 (hC : CX z ad x cX11_readsAct RX11 4 (some .boolean)) (hR : x.2.2.1 = rmk 616 0 0) (σ : MS) (s0 : Int32) : AT z x 4 (wM z τ) rI (eqA ad) 0 0 0 0 ad 201 [(0, .ref 0)] [.int s0, .ref 0] σ (M_readsAct_J201 σ s0) := by
  unfold M_readsAct_J201
  refine at_bz (fun hb => ?_)
  refine pf_X11_235 hC hb dX11_readsAct_201 ?_
  refine at_aload_n (j := 0) hC rfl rfl dX11_readsAct_204 ?_
  refine gf_X11_235 hC dX11_readsAct_205 ?_
  refine at_if_ne (tgt := 215) hC dX11_readsAct_208 rfl (fun _ => ?_) (fun _ => ?_)
  · refine at_iconst hC ic_0 dX11_readsAct_215 ?_
    exact at_zret (F := eqA ad) (ra := rI) hC nb0 dX11_readsAct_216 rfl (Nat.le_refl 0) (Nat.le_refl 0) rfl
  · refine at_iconst hC ic_1 dX11_readsAct_211 ?_
    refine at_goto (tgt := 216) hC dX11_readsAct_212 rfl ?_
    exact at_zret (F := eqA ad) (ra := rI) hC nb1 dX11_readsAct_216 rfl (Nat.le_refl 0) (Nat.le_refl 0) rfl
set_option maxRecDepth 100000 in
theorem t_M_readsAct_J196 (hC : CX z ad x cX11_readsAct RX11 4 (some .boolean)) (hR : x.2.2.1 = rmk 616 0 0) (σ : MS) : AT z x 4 (wM z τ) rI (eqA ad) 0 0 0 0 ad 196 [(0, .ref 0)] [.ref 0] σ (M_readsAct_J196 σ) := by
  unfold M_readsAct_J196
  refine at_iconst hC ic_1 dX11_readsAct_196 ?_
  refine at_goto (tgt := 201) hC dX11_readsAct_197 rfl ?_
  exact t_M_readsAct_J201 hC hR σ 1
set_option maxRecDepth 100000 in
theorem t_M_readsAct_J175 (hC : CX z ad x cX11_readsAct RX11 4 (some .boolean)) (hR : x.2.2.1 = rmk 616 0 0) (σ : MS) (a1 : Int32) : AT z x 4 (wM z τ) rI (eqA ad) 0 0 0 0 ad 175 [(0, .ref 0), (1, .int a1)] [] σ (M_readsAct_J175 σ a1) := by
  unfold M_readsAct_J175
  refine at_aload_n (j := 0) hC rfl rfl dX11_readsAct_175 ?_
  refine at_aload_n (j := 0) hC rfl rfl dX11_readsAct_176 ?_
  refine gf_X11_235 hC dX11_readsAct_177 ?_
  refine at_if_ne (tgt := 196) hC dX11_readsAct_180 rfl (fun _ => ?_) (fun _ => ?_)
  · refine at_drop (lv' := [(0, .ref 0)]) [0] rfl ?_
    exact t_M_readsAct_J196 hC hR σ
  · refine at_aload_n (j := 0) hC rfl rfl dX11_readsAct_183 ?_
    refine gf_X11_229 hC dX11_readsAct_184 ?_
    refine at_aload_n (j := 0) hC rfl rfl dX11_readsAct_187 ?_
    refine gf_X11_67 hC dX11_readsAct_188 ?_
    refine at_iload_n (j := 1) hC rfl rfl dX11_readsAct_191 ?_
    refine at_iald hC 19 dX11_readsAct_192 cl_19 (fun v4 => ?_)
    refine at_icmp_eq (tgt := 200) hC dX11_readsAct_193 rfl (fun _ => ?_) (fun _ => ?_)
    · refine at_iconst hC ic_0 dX11_readsAct_200 ?_
      refine at_drop (lv' := [(0, .ref 0)]) [0] rfl ?_
      exact t_M_readsAct_J201 hC hR σ 0
    · refine at_drop (lv' := [(0, .ref 0)]) [0] rfl ?_
      exact t_M_readsAct_J196 hC hR σ
set_option maxRecDepth 100000 in
theorem t_M_readsAct_L121 (hC : CX z ad x cX11_readsAct RX11 4 (some .boolean)) (hR : x.2.2.1 = rmk 616 0 0) (n : Nat) (σ : MS) (a1 : Int32) : AT z x 4 (wM z τ) rI (eqA ad) 0 0 0 0 ad 121 [(0, .ref 0), (1, .int a1)] [] σ (M_readsAct_L121 n σ a1) := by
  revert σ a1
  show ∀ (σ : MS) (a1 : Int32), AT z x 4 (wM z τ) rI (eqA ad) 0 0 0 0 ad 121 [(0, .ref 0), (1, .int a1)] [] σ (M_readsAct_L121_r n σ a1)
  induction n with
  | zero => intro σ a1; exact at_none
  | succ n hk_121 =>
    intro σ a1
    unfold M_readsAct_L121_r
    refine at_aload_n (j := 0) hC rfl rfl dX11_readsAct_121 ?_
    refine gf_X11_235 hC dX11_readsAct_122 ?_
    refine at_if_ne (tgt := 175) hC dX11_readsAct_125 rfl (fun _ => ?_) (fun _ => ?_)
    · exact t_M_readsAct_J175 hC hR σ a1
    · refine at_aload_n (j := 0) hC rfl rfl dX11_readsAct_128 ?_
      refine gf_X11_45 hC dX11_readsAct_129 ?_
      refine at_iload_n (j := 1) hC rfl rfl dX11_readsAct_132 ?_
      refine at_iald hC 12 dX11_readsAct_133 cl_12 (fun v5 => ?_)
      refine at_bipush hC bi_8 dX11_readsAct_134 ?_
      refine at_icmp_ge (tgt := 175) hC dX11_readsAct_136 rfl (fun _ => ?_) (fun _ => ?_)
      · exact t_M_readsAct_J175 hC hR σ a1
      · refine at_aload_n (j := 0) hC rfl rfl dX11_readsAct_139 ?_
        refine at_callVpI hC hR lk_X11_239 (c_M_byteAt σ) dX11_readsAct_140 recX11 rfl rfl ⟨by decide, by decide⟩ (Nat.le_of_ble_eq_true rfl) ⟨Nat.le_refl 0, Nat.le_refl 0⟩ (fun r6 _ => ?_)
        refine at_bipush hC bi_59 dX11_readsAct_143 ?_
        refine at_icmp_ne (tgt := 175) hC dX11_readsAct_145 rfl (fun _ => ?_) (fun _ => ?_)
        · exact t_M_readsAct_J175 hC hR σ a1
        · refine at_aload_n (j := 0) hC rfl rfl dX11_readsAct_148 ?_
          refine at_dup hC rfl dX11_readsAct_149 ?_
          refine gf_X11_229 hC dX11_readsAct_150 ?_
          refine at_iconst hC ic_1 dX11_readsAct_153 ?_
          refine at_iadd hC dX11_readsAct_154 ?_
          refine pf_X11_229 hC dX11_readsAct_155 ?_
          refine at_aload_n (j := 0) hC rfl rfl dX11_readsAct_158 ?_
          refine at_iconst hC ic_0 dX11_readsAct_159 ?_
          refine at_bipush hC bi_8 dX11_readsAct_160 ?_
          refine at_callVI hC hR lk_X11_299 (c_M_oneOf (sI σ 47 ((σ.1 47) + 1)) 0 8) dX11_readsAct_162 recX11 rfl rfl ⟨by decide, by decide⟩ (Nat.le_of_ble_eq_true rfl) ⟨Nat.le_refl 0, Nat.le_refl 0⟩ (fun r7 r7s _ => ?_)
          refine at_istore_n (lv' := [(3, .int r7), (0, .ref 0), (1, .int a1)]) hC rfl dX11_readsAct_165 (by decide) rfl ?_
          refine at_aload_n (j := 1) hC rfl rfl dX11_readsAct_166 ?_
          refine at_iload_n (j := 2) hC rfl rfl dX11_readsAct_167 ?_
          refine at_iload_n (j := 0) hC rfl rfl dX11_readsAct_168 ?_
          refine at_callVU hC hR lk_X11_322 (c_M_readsClause r7s a1 r7) dX11_readsAct_169 recX11 rfl rfl ⟨by decide, by decide⟩ (Nat.le_of_ble_eq_true rfl) ⟨Nat.le_refl 0, Nat.le_refl 0⟩ (fun r8 r8s _ => ?_)
          refine at_goto (tgt := 121) hC dX11_readsAct_172 rfl ?_
          refine at_drop (lv' := [(0, .ref 0), (1, .int a1)]) [1, 2] rfl ?_
          exact hk_121 r8s a1
set_option maxRecDepth 100000 in
theorem t_M_readsAct_J115 (hC : CX z ad x cX11_readsAct RX11 4 (some .boolean)) (hR : x.2.2.1 = rmk 616 0 0) (σ : MS) (a1 : Int32) (a2 : Int32) : AT z x 4 (wM z τ) rI (eqA ad) 0 0 0 0 ad 115 [(0, .ref 0), (1, .int a1), (2, .int a2)] [] σ (M_readsAct_J115 σ a1 a2) := by
  unfold M_readsAct_J115
  refine at_aload_n (j := 0) hC rfl rfl dX11_readsAct_115 ?_
  refine at_iload_n (j := 1) hC rfl rfl dX11_readsAct_116 ?_
  refine at_iload_n (j := 2) hC rfl rfl dX11_readsAct_117 ?_
  refine at_callVU hC hR lk_X11_322 (c_M_readsClause σ a1 a2) dX11_readsAct_118 recX11 rfl rfl ⟨by decide, by decide⟩ (Nat.le_of_ble_eq_true rfl) ⟨Nat.le_refl 0, Nat.le_refl 0⟩ (fun r3 r3s _ => ?_)
  refine at_drop (lv' := [(0, .ref 0), (1, .int a1)]) [0, 1] rfl ?_
  exact t_M_readsAct_L121 hC hR 100000 r3s a1
set_option maxRecDepth 100000 in
theorem t_M_readsAct_J97 (hC : CX z ad x cX11_readsAct RX11 4 (some .boolean)) (hR : x.2.2.1 = rmk 616 0 0) (σ : MS) (a1 : Int32) (a2 : Int32) (s0 : Int32) (s1 : Int32) : AT z x 4 (wM z τ) rI (eqA ad) 0 0 0 0 ad 97 [(0, .ref 0), (1, .int a1), (2, .int a2)] [.int s0, .int s1, .ref 13] σ (M_readsAct_J97 σ a1 a2 s0 s1) := by
  unfold M_readsAct_J97
  refine at_zast hC 13 dX11_readsAct_97 cl_13 st_13 ?_
  refine at_aload_n (j := 0) hC rfl rfl dX11_readsAct_98 ?_
  refine gf_X11_48 hC dX11_readsAct_99 ?_
  refine at_iload_n (j := 1) hC rfl rfl dX11_readsAct_102 ?_
  refine at_zald hC 13 dX11_readsAct_103 cl_13 (fun v2 => ?_)
  refine at_if_eq (tgt := 115) hC dX11_readsAct_104 rfl (fun _ => ?_) (fun _ => ?_)
  · exact t_M_readsAct_J115 hC hR (sA σ 19 (upd (σ.2.1 19) s1.toNatClampNeg (vp_nar .boolean s0))) a1 a2
  · refine at_aload_n (j := 0) hC rfl rfl dX11_readsAct_107 ?_
    refine at_iconst hC ic_0 dX11_readsAct_108 ?_
    refine at_bipush hC bi_8 dX11_readsAct_109 ?_
    refine at_callVI hC hR lk_X11_299 (c_M_oneOf (sA σ 19 (upd (σ.2.1 19) s1.toNatClampNeg (vp_nar .boolean s0))) 0 8) dX11_readsAct_111 recX11 rfl rfl ⟨by decide, by decide⟩ (Nat.le_of_ble_eq_true rfl) ⟨Nat.le_refl 0, Nat.le_refl 0⟩ (fun r9 r9s _ => ?_)
    refine at_istore_n (lv' := [(2, .int r9), (0, .ref 0), (1, .int a1)]) hC rfl dX11_readsAct_114 (by decide) rfl ?_
    refine at_drop (lv' := [(0, .ref 0), (1, .int a1), (2, .int r9)]) [1, 2, 0] rfl ?_
    exact t_M_readsAct_J115 hC hR r9s a1 r9
set_option maxRecDepth 100000 in
theorem t_M_readsAct_J96 (hC : CX z ad x cX11_readsAct RX11 4 (some .boolean)) (hR : x.2.2.1 = rmk 616 0 0) (σ : MS) (a1 : Int32) (a2 : Int32) (s0 : Int32) : AT z x 4 (wM z τ) rI (eqA ad) 0 0 0 0 ad 96 [(0, .ref 0), (1, .int a1), (2, .int a2)] [.int s0, .ref 13] σ (M_readsAct_J96 σ a1 a2 s0) := by
  unfold M_readsAct_J96
  refine at_iconst hC ic_0 dX11_readsAct_96 ?_
  exact t_M_readsAct_J97 hC hR σ a1 a2 0 s0
set_option maxRecDepth 100000 in
theorem t_M_readsAct_L12 (hC : CX z ad x cX11_readsAct RX11 4 (some .boolean)) (hR : x.2.2.1 = rmk 616 0 0) (n : Nat) (σ : MS) (a1 : Int32) (a2 : Int32) : AT z x 4 (wM z τ) rI (eqA ad) 0 0 0 0 ad 12 [(0, .ref 0), (1, .int a1), (2, .int a2)] [] σ (M_readsAct_L12 n σ a1 a2) := by
  revert σ a1 a2
  show ∀ (σ : MS) (a1 : Int32) (a2 : Int32), AT z x 4 (wM z τ) rI (eqA ad) 0 0 0 0 ad 12 [(0, .ref 0), (1, .int a1), (2, .int a2)] [] σ (M_readsAct_L12_r n σ a1 a2)
  induction n with
  | zero => intro σ a1 a2; exact at_none
  | succ n hk_12 =>
    intro σ a1 a2
    unfold M_readsAct_L12_r
    refine at_iload_n (j := 2) hC rfl rfl dX11_readsAct_12 ?_
    refine at_aload_n (j := 0) hC rfl rfl dX11_readsAct_13 ?_
    refine gf_X11_224 hC dX11_readsAct_14 ?_
    refine at_icmp_ge (tgt := 44) hC dX11_readsAct_17 rfl (fun _ => ?_) (fun _ => ?_)
    · refine at_aload_n (j := 0) hC rfl rfl dX11_readsAct_44 ?_
      refine at_iload_n (j := 1) hC rfl rfl dX11_readsAct_45 ?_
      refine pf_X11_232 hC dX11_readsAct_46 ?_
      refine at_aload_n (j := 0) hC rfl rfl dX11_readsAct_49 ?_
      refine at_iconst hC ic_0 dX11_readsAct_50 ?_
      refine pf_X11_229 hC dX11_readsAct_51 ?_
      refine at_aload_n (j := 0) hC rfl rfl dX11_readsAct_54 ?_
      refine at_iconst hC ic_0 dX11_readsAct_55 ?_
      refine pf_X11_235 hC (Or.inl rfl) dX11_readsAct_56 ?_
      refine at_aload_n (j := 0) hC rfl rfl dX11_readsAct_59 ?_
      refine gf_X11_45 hC dX11_readsAct_60 ?_
      refine at_iload_n (j := 1) hC rfl rfl dX11_readsAct_63 ?_
      refine at_iconst hC ic_0 dX11_readsAct_64 ?_
      refine at_iast hC 12 dX11_readsAct_65 cl_12 st_12 ?_
      refine at_aload_n (j := 0) hC rfl rfl dX11_readsAct_66 ?_
      refine at_iconst hC ic_0 dX11_readsAct_67 ?_
      refine at_bipush hC bi_9 dX11_readsAct_68 ?_
      refine at_callVI hC hR lk_X11_299 (c_M_oneOf (sA (sI (sI (sI σ 46 a1) 47 0) 48 0) 18 (upd ((sI (sI (sI σ 46 a1) 47 0) 48 0).2.1 18) a1.toNatClampNeg 0)) 0 9) dX11_readsAct_70 recX11 rfl rfl ⟨by decide, by decide⟩ (Nat.le_of_ble_eq_true rfl) ⟨Nat.le_refl 0, Nat.le_refl 0⟩ (fun r1 r1s _ => ?_)
      refine at_istore_n (lv' := [(2, .int r1), (0, .ref 0), (1, .int a1)]) hC rfl dX11_readsAct_73 (by decide) rfl ?_
      refine at_aload_n (j := 1) hC rfl rfl dX11_readsAct_74 ?_
      refine gf_X11_48 hC dX11_readsAct_75 ?_
      refine at_iload_n (j := 2) hC rfl rfl dX11_readsAct_78 ?_
      refine at_aload_n (j := 1) hC rfl rfl dX11_readsAct_79 ?_
      refine gf_X11_235 hC dX11_readsAct_80 ?_
      refine at_if_ne (tgt := 96) hC dX11_readsAct_83 rfl (fun _ => ?_) (fun _ => ?_)
      · refine at_drop (lv' := [(0, .ref 0), (1, .int a1), (2, .int r1)]) [1, 2, 0] rfl ?_
        exact t_M_readsAct_J96 hC hR r1s a1 r1 a1
      · refine at_iload_n (j := 0) hC rfl rfl dX11_readsAct_86 ?_
        refine at_bipush hC bi_9 dX11_readsAct_87 ?_
        refine at_icmp_ne (tgt := 96) hC dX11_readsAct_89 rfl (fun _ => ?_) (fun _ => ?_)
        · refine at_drop (lv' := [(0, .ref 0), (1, .int a1), (2, .int r1)]) [1, 2, 0] rfl ?_
          exact t_M_readsAct_J96 hC hR r1s a1 r1 a1
        · refine at_iconst hC ic_1 dX11_readsAct_92 ?_
          refine at_goto (tgt := 97) hC dX11_readsAct_93 rfl ?_
          refine at_drop (lv' := [(0, .ref 0), (1, .int a1), (2, .int r1)]) [1, 2, 0] rfl ?_
          exact t_M_readsAct_J97 hC hR r1s a1 r1 1 a1
    · refine at_aload_n (j := 0) hC rfl rfl dX11_readsAct_20 ?_
      refine gf_X11_58 hC dX11_readsAct_21 ?_
      refine at_sipush hC si_200 dX11_readsAct_24 ?_
      refine at_iload_n (j := 1) hC rfl rfl dX11_readsAct_27 ?_
      refine at_imul hC dX11_readsAct_28 ?_
      refine at_iload_n (j := 2) hC rfl rfl dX11_readsAct_29 ?_
      refine at_iadd hC dX11_readsAct_30 ?_
      refine at_aload_n (j := 0) hC rfl rfl dX11_readsAct_31 ?_
      refine gf_X11_39 hC dX11_readsAct_32 ?_
      refine at_iload_n (j := 2) hC rfl rfl dX11_readsAct_35 ?_
      refine at_iald hC 10 dX11_readsAct_36 cl_10 (fun v10 => ?_)
      refine at_iast hC 16 dX11_readsAct_37 cl_16 st_16 ?_
      refine at_iinc (j := 2) (v := a2 + 1) (lv' := [(2, .int (a2 + 1)), (0, .ref 0), (1, .int a1)]) hC dX11_readsAct_38 rfl rfl (by decide) rfl ?_
      refine at_goto (tgt := 12) hC dX11_readsAct_41 rfl ?_
      refine at_drop (lv' := [(0, .ref 0), (1, .int a1), (2, .int (a2 + 1))]) [1, 2, 0] rfl ?_
      exact hk_12 (sA σ 22 (upd (σ.2.1 22) ((200 * a1) + a2).toNatClampNeg v10)) a1 (a2 + 1)
set_option maxRecDepth 100000 in
theorem c_M_readsAct (σ : MS) (p0 : Int32) : Ct z (wM z τ) rI eqA yX11_readsAct cX11_readsAct 4 (some .boolean) 616 0 0 [.ref 0, .int p0] σ (M_readsAct σ p0) := by
  refine Ct.of (by decide) (Nat.le_of_ble_eq_true rfl) (fun ad x hC hR _ => ?_)
  show AT z x 4 (wM z τ) rI (eqA ad) 0 0 0 0 ad 0 [(0, .ref 0), (1, .int p0)] [] σ (M_readsAct σ p0)
  unfold M_readsAct
  refine at_aload_n (j := 0) hC rfl rfl dX11_readsAct_0 ?_
  refine gf_X11_67 hC dX11_readsAct_1 ?_
  refine at_iload_n (j := 1) hC rfl rfl dX11_readsAct_4 ?_
  refine at_aload_n (j := 0) hC rfl rfl dX11_readsAct_5 ?_
  refine gf_X11_224 hC dX11_readsAct_6 ?_
  refine at_iast hC 19 dX11_readsAct_9 cl_19 st_19 ?_
  refine at_iconst hC ic_0 dX11_readsAct_10 ?_
  refine at_istore_n (lv' := [(2, .int 0), (0, .ref 0), (1, .int p0)]) hC rfl dX11_readsAct_11 (by decide) rfl ?_
  refine at_drop (lv' := [(0, .ref 0), (1, .int p0), (2, .int 0)]) [1, 2, 0] rfl ?_
  exact t_M_readsAct_L12 hC hR 100000 (sA σ 25 (upd (σ.2.1 25) p0.toNatClampNeg (σ.1 15))) p0 0
theorem dX11_text_0 : decode cX11_text 0 = .ok (.iload_n 1, 1) := by decide +kernel
theorem dX11_text_1 : decode cX11_text 1 = .ok (.invokestatic 177, 3) := by decide +kernel
theorem dX11_text_4 : decode cX11_text 4 = .ok (.ifCond .ne 6, 3) := by decide +kernel
theorem dX11_text_7 : decode cX11_text 7 = .ok (.bipush (-2), 2) := by decide +kernel
theorem dX11_text_9 : decode cX11_text 9 = .ok (.ireturn, 1) := by decide +kernel
theorem dX11_text_10 : decode cX11_text 10 = .ok (.aload_n 0, 1) := by decide +kernel
theorem dX11_text_11 : decode cX11_text 11 = .ok (.getfield 326, 3) := by decide +kernel
theorem dX11_text_14 : decode cX11_text 14 = .ok (.bipush 8, 2) := by decide +kernel
theorem dX11_text_16 : decode cX11_text 16 = .ok (.if_icmp .ne 6, 3) := by decide +kernel
theorem dX11_text_19 : decode cX11_text 19 = .ok (.bipush (-4), 2) := by decide +kernel
theorem dX11_text_21 : decode cX11_text 21 = .ok (.ireturn, 1) := by decide +kernel
theorem dX11_text_22 : decode cX11_text 22 = .ok (.aload_n 0, 1) := by decide +kernel
theorem dX11_text_23 : decode cX11_text 23 = .ok (.aload_n 0, 1) := by decide +kernel
theorem dX11_text_24 : decode cX11_text 24 = .ok (.getfield 326, 3) := by decide +kernel
theorem dX11_text_27 : decode cX11_text 27 = .ok (.invokevirtual 329, 3) := by decide +kernel
theorem dX11_text_30 : decode cX11_text 30 = .ok (.istore_n 2, 1) := by decide +kernel
theorem dX11_text_31 : decode cX11_text 31 = .ok (.aload_n 0, 1) := by decide +kernel
theorem dX11_text_32 : decode cX11_text 32 = .ok (.iconst 0, 1) := by decide +kernel
theorem dX11_text_33 : decode cX11_text 33 = .ok (.putfield 224, 3) := by decide +kernel
theorem dX11_text_36 : decode cX11_text 36 = .ok (.iload_n 2, 1) := by decide +kernel
theorem dX11_text_37 : decode cX11_text 37 = .ok (.ifCond .ne 11, 3) := by decide +kernel
theorem dX11_text_40 : decode cX11_text 40 = .ok (.bipush (-10), 2) := by decide +kernel
theorem dX11_text_42 : decode cX11_text 42 = .ok (.aload_n 0, 1) := by decide +kernel
theorem dX11_text_43 : decode cX11_text 43 = .ok (.getfield 229, 3) := by decide +kernel
theorem dX11_text_46 : decode cX11_text 46 = .ok (.isub, 1) := by decide +kernel
theorem dX11_text_47 : decode cX11_text 47 = .ok (.ireturn, 1) := by decide +kernel
theorem dX11_text_48 : decode cX11_text 48 = .ok (.aload_n 0, 1) := by decide +kernel
theorem dX11_text_49 : decode cX11_text 49 = .ok (.getfield 42, 3) := by decide +kernel
theorem dX11_text_52 : decode cX11_text 52 = .ok (.aload_n 0, 1) := by decide +kernel
theorem dX11_text_53 : decode cX11_text 53 = .ok (.getfield 326, 3) := by decide +kernel
theorem dX11_text_56 : decode cX11_text 56 = .ok (.iload_n 1, 1) := by decide +kernel
theorem dX11_text_57 : decode cX11_text 57 = .ok (.iastore, 1) := by decide +kernel
theorem dX11_text_58 : decode cX11_text 58 = .ok (.aload_n 0, 1) := by decide +kernel
theorem dX11_text_59 : decode cX11_text 59 = .ok (.dup, 1) := by decide +kernel
theorem dX11_text_60 : decode cX11_text 60 = .ok (.getfield 326, 3) := by decide +kernel
theorem dX11_text_63 : decode cX11_text 63 = .ok (.iconst 1, 1) := by decide +kernel
theorem dX11_text_64 : decode cX11_text 64 = .ok (.iadd, 1) := by decide +kernel
theorem dX11_text_65 : decode cX11_text 65 = .ok (.putfield 326, 3) := by decide +kernel
theorem dX11_text_68 : decode cX11_text 68 = .ok (.aload_n 0, 1) := by decide +kernel
theorem dX11_text_69 : decode cX11_text 69 = .ok (.getfield 326, 3) := by decide +kernel
theorem dX11_text_72 : decode cX11_text 72 = .ok (.iconst 1, 1) := by decide +kernel
theorem dX11_text_73 : decode cX11_text 73 = .ok (.isub, 1) := by decide +kernel
theorem dX11_text_74 : decode cX11_text 74 = .ok (.ireturn, 1) := by decide +kernel
set_option maxRecDepth 100000 in
theorem c_M_text (σ : MS) (p0 : Int32) : Ct z (wM z τ) rI eqA yX11_text cX11_text 3 (some .int) 617 0 0 [.ref 0, .int p0] σ (M_text σ p0) := by
  refine Ct.of (by decide) (Nat.le_of_ble_eq_true rfl) (fun ad x hC hR _ => ?_)
  show AT z x 3 (wM z τ) rI (eqA ad) 0 0 0 0 ad 0 [(0, .ref 0), (1, .int p0)] [] σ (M_text σ p0)
  unfold M_text
  refine at_iload_n (j := 1) hC rfl rfl dX11_text_0 ?_
  refine at_callSpI hC hR lk_X11_177 (c_M_isDay σ p0) dX11_text_1 rfl rfl ⟨by decide, by decide⟩ (Nat.le_of_ble_eq_true rfl) ⟨Nat.le_refl 0, Nat.le_refl 0⟩ (fun r1 _ => ?_)
  refine at_if_ne (tgt := 10) hC dX11_text_4 rfl (fun _ => ?_) (fun _ => ?_)
  · refine at_aload_n (j := 0) hC rfl rfl dX11_text_10 ?_
    refine gf_X11_326 hC dX11_text_11 ?_
    refine at_bipush hC bi_8 dX11_text_14 ?_
    refine at_icmp_ne (tgt := 22) hC dX11_text_16 rfl (fun _ => ?_) (fun _ => ?_)
    · refine at_aload_n (j := 0) hC rfl rfl dX11_text_22 ?_
      refine at_aload_n (j := 0) hC rfl rfl dX11_text_23 ?_
      refine gf_X11_326 hC dX11_text_24 ?_
      refine at_callVI hC hR lk_X11_329 (c_M_readsAct σ (σ.1 16)) dX11_text_27 recX11 rfl rfl ⟨by decide, by decide⟩ (Nat.le_of_ble_eq_true rfl) ⟨Nat.le_refl 0, Nat.le_refl 0⟩ (fun r2 r2s _ => ?_)
      refine at_istore_n (lv' := [(2, .int r2), (0, .ref 0), (1, .int p0)]) hC rfl dX11_text_30 (by decide) rfl ?_
      refine at_aload_n (j := 1) hC rfl rfl dX11_text_31 ?_
      refine at_iconst hC ic_0 dX11_text_32 ?_
      refine pf_X11_224 hC dX11_text_33 ?_
      refine at_iload_n (j := 0) hC rfl rfl dX11_text_36 ?_
      refine at_if_ne (tgt := 48) hC dX11_text_37 rfl (fun _ => ?_) (fun _ => ?_)
      · refine at_aload_n (j := 1) hC rfl rfl dX11_text_48 ?_
        refine gf_X11_42 hC dX11_text_49 ?_
        refine at_aload_n (j := 1) hC rfl rfl dX11_text_52 ?_
        refine gf_X11_326 hC dX11_text_53 ?_
        refine at_iload_n (j := 2) hC rfl rfl dX11_text_56 ?_
        refine at_iast hC 11 dX11_text_57 cl_11 st_11 ?_
        refine at_aload_n (j := 1) hC rfl rfl dX11_text_58 ?_
        refine at_dup hC rfl dX11_text_59 ?_
        refine gf_X11_326 hC dX11_text_60 ?_
        refine at_iconst hC ic_1 dX11_text_63 ?_
        refine at_iadd hC dX11_text_64 ?_
        refine pf_X11_326 hC dX11_text_65 ?_
        refine at_aload_n (j := 1) hC rfl rfl dX11_text_68 ?_
        refine gf_X11_326 hC dX11_text_69 ?_
        refine at_iconst hC ic_1 dX11_text_72 ?_
        refine at_isub hC dX11_text_73 ?_
        exact at_iret (F := eqA ad) (ra := rI) hC dX11_text_74 rfl (Nat.le_refl 0) (Nat.le_refl 0) rfl
      · refine at_bipush hC bi_m10 dX11_text_40 ?_
        refine at_aload_n (j := 1) hC rfl rfl dX11_text_42 ?_
        refine gf_X11_229 hC dX11_text_43 ?_
        refine at_isub hC dX11_text_46 ?_
        exact at_iret (F := eqA ad) (ra := rI) hC dX11_text_47 rfl (Nat.le_refl 0) (Nat.le_refl 0) rfl
    · refine at_bipush hC bi_m4 dX11_text_19 ?_
      exact at_iret (F := eqA ad) (ra := rI) hC dX11_text_21 rfl (Nat.le_refl 0) (Nat.le_refl 0) rfl
  · refine at_bipush hC bi_m2 dX11_text_7 ?_
    exact at_iret (F := eqA ad) (ra := rI) hC dX11_text_9 rfl (Nat.le_refl 0) (Nat.le_refl 0) rfl
theorem dX11_force_0 : decode cX11_force 0 = .ok (.iload_n 1, 1) := by decide +kernel
theorem dX11_force_1 : decode cX11_force 1 = .ok (.iconst 0, 1) := by decide +kernel
theorem dX11_force_2 : decode cX11_force 2 = .ok (.aload_n 0, 1) := by decide +kernel
theorem dX11_force_3 : decode cX11_force 3 = .ok (.getfield 326, 3) := by decide +kernel
theorem dX11_force_6 : decode cX11_force 6 = .ok (.iconst 1, 1) := by decide +kernel
theorem dX11_force_7 : decode cX11_force 7 = .ok (.isub, 1) := by decide +kernel
theorem dX11_force_8 : decode cX11_force 8 = .ok (.invokestatic 129, 3) := by decide +kernel
theorem dX11_force_11 : decode cX11_force 11 = .ok (.ifCond .ne 5, 3) := by decide +kernel
theorem dX11_force_14 : decode cX11_force 14 = .ok (.iconst (-1), 1) := by decide +kernel
theorem dX11_force_15 : decode cX11_force 15 = .ok (.ireturn, 1) := by decide +kernel
theorem dX11_force_16 : decode cX11_force 16 = .ok (.iload_n 2, 1) := by decide +kernel
theorem dX11_force_17 : decode cX11_force 17 = .ok (.tableswitch 56 0 2 #[27, 34, 41], 27) := by decide +kernel
theorem dX11_force_44 : decode cX11_force 44 = .ok (.aload_n 0, 1) := by decide +kernel
theorem dX11_force_45 : decode cX11_force 45 = .ok (.getfield 42, 3) := by decide +kernel
theorem dX11_force_48 : decode cX11_force 48 = .ok (.iload_n 1, 1) := by decide +kernel
theorem dX11_force_49 : decode cX11_force 49 = .ok (.iaload, 1) := by decide +kernel
theorem dX11_force_50 : decode cX11_force 50 = .ok (.ireturn, 1) := by decide +kernel
theorem dX11_force_51 : decode cX11_force 51 = .ok (.aload_n 0, 1) := by decide +kernel
theorem dX11_force_52 : decode cX11_force 52 = .ok (.getfield 45, 3) := by decide +kernel
theorem dX11_force_55 : decode cX11_force 55 = .ok (.iload_n 1, 1) := by decide +kernel
theorem dX11_force_56 : decode cX11_force 56 = .ok (.iaload, 1) := by decide +kernel
theorem dX11_force_57 : decode cX11_force 57 = .ok (.ireturn, 1) := by decide +kernel
theorem dX11_force_58 : decode cX11_force 58 = .ok (.aload_n 0, 1) := by decide +kernel
theorem dX11_force_59 : decode cX11_force 59 = .ok (.getfield 48, 3) := by decide +kernel
theorem dX11_force_62 : decode cX11_force 62 = .ok (.iload_n 1, 1) := by decide +kernel
theorem dX11_force_63 : decode cX11_force 63 = .ok (.baload, 1) := by decide +kernel
theorem dX11_force_64 : decode cX11_force 64 = .ok (.ifCond .eq 7, 3) := by decide +kernel
theorem dX11_force_67 : decode cX11_force 67 = .ok (.iconst 1, 1) := by decide +kernel
theorem dX11_force_68 : decode cX11_force 68 = .ok (.goto 4, 3) := by decide +kernel
theorem dX11_force_71 : decode cX11_force 71 = .ok (.iconst 0, 1) := by decide +kernel
theorem dX11_force_72 : decode cX11_force 72 = .ok (.ireturn, 1) := by decide +kernel
theorem dX11_force_73 : decode cX11_force 73 = .ok (.iload_n 2, 1) := by decide +kernel
theorem dX11_force_74 : decode cX11_force 74 = .ok (.bipush 10, 2) := by decide +kernel
theorem dX11_force_76 : decode cX11_force 76 = .ok (.isub, 1) := by decide +kernel
theorem dX11_force_77 : decode cX11_force 77 = .ok (.iconst 0, 1) := by decide +kernel
theorem dX11_force_78 : decode cX11_force 78 = .ok (.aload_n 0, 1) := by decide +kernel
theorem dX11_force_79 : decode cX11_force 79 = .ok (.getfield 45, 3) := by decide +kernel
theorem dX11_force_82 : decode cX11_force 82 = .ok (.iload_n 1, 1) := by decide +kernel
theorem dX11_force_83 : decode cX11_force 83 = .ok (.iaload, 1) := by decide +kernel
theorem dX11_force_84 : decode cX11_force 84 = .ok (.iconst 1, 1) := by decide +kernel
theorem dX11_force_85 : decode cX11_force 85 = .ok (.isub, 1) := by decide +kernel
theorem dX11_force_86 : decode cX11_force 86 = .ok (.invokestatic 129, 3) := by decide +kernel
theorem dX11_force_89 : decode cX11_force 89 = .ok (.ifCond .eq 20, 3) := by decide +kernel
theorem dX11_force_92 : decode cX11_force 92 = .ok (.aload_n 0, 1) := by decide +kernel
theorem dX11_force_93 : decode cX11_force 93 = .ok (.getfield 52, 3) := by decide +kernel
theorem dX11_force_96 : decode cX11_force 96 = .ok (.bipush 8, 2) := by decide +kernel
theorem dX11_force_98 : decode cX11_force 98 = .ok (.iload_n 1, 1) := by decide +kernel
theorem dX11_force_99 : decode cX11_force 99 = .ok (.imul, 1) := by decide +kernel
theorem dX11_force_100 : decode cX11_force 100 = .ok (.iload_n 2, 1) := by decide +kernel
theorem dX11_force_101 : decode cX11_force 101 = .ok (.iadd, 1) := by decide +kernel
theorem dX11_force_102 : decode cX11_force 102 = .ok (.bipush 10, 2) := by decide +kernel
theorem dX11_force_104 : decode cX11_force 104 = .ok (.isub, 1) := by decide +kernel
theorem dX11_force_105 : decode cX11_force 105 = .ok (.iaload, 1) := by decide +kernel
theorem dX11_force_106 : decode cX11_force 106 = .ok (.goto 4, 3) := by decide +kernel
theorem dX11_force_109 : decode cX11_force 109 = .ok (.iconst (-1), 1) := by decide +kernel
theorem dX11_force_110 : decode cX11_force 110 = .ok (.ireturn, 1) := by decide +kernel
set_option maxRecDepth 100000 in
theorem c_M_force (σ : MS) (p0 : Int32) (p1 : Int32) : Ct z (wM z τ) rI eqA yX11_force cX11_force 3 (some .int) 2 0 0 [.ref 0, .int p0, .int p1] σ ((M_force σ p0 p1).map fun r => (r, σ)) := by
  refine Ct.of (by decide) (Nat.le_of_ble_eq_true rfl) (fun ad x hC hR _ => ?_)
  show AT z x 3 (wM z τ) rI (eqA ad) 0 0 0 0 ad 0 [(0, .ref 0), (1, .int p0), (2, .int p1)] [] σ ((M_force σ p0 p1).map fun r => (r, σ))
  unfold M_force
  refine at_iload_n (j := 1) hC rfl rfl dX11_force_0 ?_
  refine at_iconst hC ic_0 dX11_force_1 ?_
  refine at_aload_n (j := 0) hC rfl rfl dX11_force_2 ?_
  refine gf_X11_326 hC dX11_force_3 ?_
  refine at_iconst hC ic_1 dX11_force_6 ?_
  refine at_isub hC dX11_force_7 ?_
  refine ap_callSI hC hR lk_X11_129 (c_M_in σ p0 0 ((σ.1 16) - 1)) dX11_force_8 rfl rfl ⟨by decide, by decide⟩ (Nat.le_of_ble_eq_true rfl) ⟨Nat.le_refl 0, Nat.le_refl 0⟩ (fun r1 _ => ?_)
  refine ap_if_ne (tgt := 16) hC dX11_force_11 rfl (fun _ => ?_) (fun _ => ?_)
  · refine at_iload_n (j := 2) hC rfl rfl dX11_force_16 ?_
    refine ap_sw (off := 27) (tgt := 44) (v := 0) hC 0 dX11_force_17 rfl rfl (by decide) (by decide) swp0 ?_ (fun hp0 => ?_)
    · refine at_aload_n (j := 0) hC rfl rfl dX11_force_44 ?_
      refine gf_X11_42 hC dX11_force_45 ?_
      refine at_iload_n (j := 1) hC rfl rfl dX11_force_48 ?_
      refine ap_iald hC 11 dX11_force_49 cl_11 (fun v2 => ?_)
      exact at_iret (F := eqA ad) (ra := rI) hC dX11_force_50 rfl (Nat.le_refl 0) (Nat.le_refl 0) rfl
    refine ap_sw (off := 34) (tgt := 51) (v := 1) hC 1 dX11_force_17 rfl rfl (by decide) (by decide) hp0 ?_ (fun hp1 => ?_)
    · refine at_aload_n (j := 0) hC rfl rfl dX11_force_51 ?_
      refine gf_X11_45 hC dX11_force_52 ?_
      refine at_iload_n (j := 1) hC rfl rfl dX11_force_55 ?_
      refine ap_iald hC 12 dX11_force_56 cl_12 (fun v3 => ?_)
      exact at_iret (F := eqA ad) (ra := rI) hC dX11_force_57 rfl (Nat.le_refl 0) (Nat.le_refl 0) rfl
    refine ap_sw (off := 41) (tgt := 58) (v := 2) hC 2 dX11_force_17 rfl rfl (by decide) (by decide) hp1 ?_ (fun hp2 => ?_)
    · refine at_aload_n (j := 0) hC rfl rfl dX11_force_58 ?_
      refine gf_X11_48 hC dX11_force_59 ?_
      refine at_iload_n (j := 1) hC rfl rfl dX11_force_62 ?_
      refine ap_zald hC 13 dX11_force_63 cl_13 (fun v4 => ?_)
      refine ap_if_eq (tgt := 71) hC dX11_force_64 rfl (fun _ => ?_) (fun _ => ?_)
      · refine at_iconst hC ic_0 dX11_force_71 ?_
        exact at_iret (F := eqA ad) (ra := rI) hC dX11_force_72 rfl (Nat.le_refl 0) (Nat.le_refl 0) rfl
      · refine at_iconst hC ic_1 dX11_force_67 ?_
        refine at_goto (tgt := 72) hC dX11_force_68 rfl ?_
        exact at_iret (F := eqA ad) (ra := rI) hC dX11_force_72 rfl (Nat.le_refl 0) (Nat.le_refl 0) rfl
    refine at_swd (tgt := 73) hC 3 dX11_force_17 rfl (by decide) hp2 ?_
    refine at_iload_n (j := 2) hC rfl rfl dX11_force_73 ?_
    refine at_bipush hC bi_10 dX11_force_74 ?_
    refine at_isub hC dX11_force_76 ?_
    refine at_iconst hC ic_0 dX11_force_77 ?_
    refine at_aload_n (j := 0) hC rfl rfl dX11_force_78 ?_
    refine gf_X11_45 hC dX11_force_79 ?_
    refine at_iload_n (j := 1) hC rfl rfl dX11_force_82 ?_
    refine ap_iald hC 12 dX11_force_83 cl_12 (fun v5 => ?_)
    refine at_iconst hC ic_1 dX11_force_84 ?_
    refine at_isub hC dX11_force_85 ?_
    refine ap_callSI hC hR lk_X11_129 (c_M_in σ (p1 - 10) 0 (v5 - 1)) dX11_force_86 rfl rfl ⟨by decide, by decide⟩ (Nat.le_of_ble_eq_true rfl) ⟨Nat.le_refl 0, Nat.le_refl 0⟩ (fun r6 _ => ?_)
    refine ap_if_eq (tgt := 109) hC dX11_force_89 rfl (fun _ => ?_) (fun _ => ?_)
    · refine at_iconst hC ic_m1 dX11_force_109 ?_
      exact at_iret (F := eqA ad) (ra := rI) hC dX11_force_110 rfl (Nat.le_refl 0) (Nat.le_refl 0) rfl
    · refine at_aload_n (j := 0) hC rfl rfl dX11_force_92 ?_
      refine gf_X11_52 hC dX11_force_93 ?_
      refine at_bipush hC bi_8 dX11_force_96 ?_
      refine at_iload_n (j := 1) hC rfl rfl dX11_force_98 ?_
      refine at_imul hC dX11_force_99 ?_
      refine at_iload_n (j := 2) hC rfl rfl dX11_force_100 ?_
      refine at_iadd hC dX11_force_101 ?_
      refine at_bipush hC bi_10 dX11_force_102 ?_
      refine at_isub hC dX11_force_104 ?_
      refine ap_iald hC 14 dX11_force_105 cl_14 (fun v7 => ?_)
      refine at_goto (tgt := 110) hC dX11_force_106 rfl ?_
      exact at_iret (F := eqA ad) (ra := rI) hC dX11_force_110 rfl (Nat.le_refl 0) (Nat.le_refl 0) rfl
  · refine at_iconst hC ic_m1 dX11_force_14 ?_
    exact at_iret (F := eqA ad) (ra := rI) hC dX11_force_15 rfl (Nat.le_refl 0) (Nat.le_refl 0) rfl
theorem dX11_out_0 : decode cX11_out 0 = .ok (.iload_n 1, 1) := by decide +kernel
theorem dX11_out_1 : decode cX11_out 1 = .ok (.iconst 0, 1) := by decide +kernel
theorem dX11_out_2 : decode cX11_out 2 = .ok (.aload_n 0, 1) := by decide +kernel
theorem dX11_out_3 : decode cX11_out 3 = .ok (.getfield 326, 3) := by decide +kernel
theorem dX11_out_6 : decode cX11_out 6 = .ok (.iconst 1, 1) := by decide +kernel
theorem dX11_out_7 : decode cX11_out 7 = .ok (.isub, 1) := by decide +kernel
theorem dX11_out_8 : decode cX11_out 8 = .ok (.invokestatic 129, 3) := by decide +kernel
theorem dX11_out_11 : decode cX11_out 11 = .ok (.ifCond .eq 19, 3) := by decide +kernel
theorem dX11_out_14 : decode cX11_out 14 = .ok (.iload_n 2, 1) := by decide +kernel
theorem dX11_out_15 : decode cX11_out 15 = .ok (.iconst 0, 1) := by decide +kernel
theorem dX11_out_16 : decode cX11_out 16 = .ok (.aload_n 0, 1) := by decide +kernel
theorem dX11_out_17 : decode cX11_out 17 = .ok (.getfield 45, 3) := by decide +kernel
theorem dX11_out_20 : decode cX11_out 20 = .ok (.iload_n 1, 1) := by decide +kernel
theorem dX11_out_21 : decode cX11_out 21 = .ok (.iaload, 1) := by decide +kernel
theorem dX11_out_22 : decode cX11_out 22 = .ok (.iconst 1, 1) := by decide +kernel
theorem dX11_out_23 : decode cX11_out 23 = .ok (.isub, 1) := by decide +kernel
theorem dX11_out_24 : decode cX11_out 24 = .ok (.invokestatic 129, 3) := by decide +kernel
theorem dX11_out_27 : decode cX11_out 27 = .ok (.ifCond .ne 5, 3) := by decide +kernel
theorem dX11_out_30 : decode cX11_out 30 = .ok (.iconst (-1), 1) := by decide +kernel
theorem dX11_out_31 : decode cX11_out 31 = .ok (.ireturn, 1) := by decide +kernel
theorem dX11_out_32 : decode cX11_out 32 = .ok (.iload_n 3, 1) := by decide +kernel
theorem dX11_out_33 : decode cX11_out 33 = .ok (.invokestatic 177, 3) := by decide +kernel
theorem dX11_out_36 : decode cX11_out 36 = .ok (.ifCond .ne 6, 3) := by decide +kernel
theorem dX11_out_39 : decode cX11_out 39 = .ok (.bipush (-2), 2) := by decide +kernel
theorem dX11_out_41 : decode cX11_out 41 = .ok (.ireturn, 1) := by decide +kernel
theorem dX11_out_42 : decode cX11_out 42 = .ok (.bipush 8, 2) := by decide +kernel
theorem dX11_out_44 : decode cX11_out 44 = .ok (.iload_n 1, 1) := by decide +kernel
theorem dX11_out_45 : decode cX11_out 45 = .ok (.imul, 1) := by decide +kernel
theorem dX11_out_46 : decode cX11_out 46 = .ok (.iload_n 2, 1) := by decide +kernel
theorem dX11_out_47 : decode cX11_out 47 = .ok (.iadd, 1) := by decide +kernel
theorem dX11_out_48 : decode cX11_out 48 = .ok (.istore 4, 2) := by decide +kernel
theorem dX11_out_50 : decode cX11_out 50 = .ok (.aload_n 0, 1) := by decide +kernel
theorem dX11_out_51 : decode cX11_out 51 = .ok (.getfield 55, 3) := by decide +kernel
theorem dX11_out_54 : decode cX11_out 54 = .ok (.iload 4, 2) := by decide +kernel
theorem dX11_out_56 : decode cX11_out 56 = .ok (.iaload, 1) := by decide +kernel
theorem dX11_out_57 : decode cX11_out 57 = .ok (.istore 5, 2) := by decide +kernel
theorem dX11_out_59 : decode cX11_out 59 = .ok (.aload_n 0, 1) := by decide +kernel
theorem dX11_out_60 : decode cX11_out 60 = .ok (.getfield 55, 3) := by decide +kernel
theorem dX11_out_63 : decode cX11_out 63 = .ok (.iload 4, 2) := by decide +kernel
theorem dX11_out_65 : decode cX11_out 65 = .ok (.iload_n 3, 1) := by decide +kernel
theorem dX11_out_66 : decode cX11_out 66 = .ok (.iload 5, 2) := by decide +kernel
theorem dX11_out_68 : decode cX11_out 68 = .ok (.if_icmp .ge 7, 3) := by decide +kernel
theorem dX11_out_71 : decode cX11_out 71 = .ok (.iload_n 3, 1) := by decide +kernel
theorem dX11_out_72 : decode cX11_out 72 = .ok (.goto 5, 3) := by decide +kernel
theorem dX11_out_75 : decode cX11_out 75 = .ok (.iload 5, 2) := by decide +kernel
theorem dX11_out_77 : decode cX11_out 77 = .ok (.iastore, 1) := by decide +kernel
theorem dX11_out_78 : decode cX11_out 78 = .ok (.iload 5, 2) := by decide +kernel
theorem dX11_out_80 : decode cX11_out 80 = .ok (.sipush 10000, 3) := by decide +kernel
theorem dX11_out_83 : decode cX11_out 83 = .ok (.if_icmp .ne 7, 3) := by decide +kernel
theorem dX11_out_86 : decode cX11_out 86 = .ok (.iconst 1, 1) := by decide +kernel
theorem dX11_out_87 : decode cX11_out 87 = .ok (.goto 4, 3) := by decide +kernel
theorem dX11_out_90 : decode cX11_out 90 = .ok (.iconst 0, 1) := by decide +kernel
theorem dX11_out_91 : decode cX11_out 91 = .ok (.ireturn, 1) := by decide +kernel
set_option maxRecDepth 100000 in
theorem t_M_out_J77 (hC : CX z ad x cX11_out RX11 6 (some .int)) (hR : x.2.2.1 = rmk 3 0 0) (σ : MS) (a5 : Int32) (s0 : Int32) (s1 : Int32) : AT z x 6 (wM z τ) rI (eqA ad) 0 0 0 0 ad 77 [(5, .int a5)] [.int s0, .int s1, .ref 15] σ (M_out_J77 σ a5 s0 s1) := by
  unfold M_out_J77
  refine at_iast hC 15 dX11_out_77 cl_15 st_15 ?_
  refine at_iload (j := 0) hC rfl dX11_out_78 ?_
  refine at_sipush hC si_10000 dX11_out_80 ?_
  refine at_icmp_ne (tgt := 90) hC dX11_out_83 rfl (fun _ => ?_) (fun _ => ?_)
  · refine at_iconst hC ic_0 dX11_out_90 ?_
    exact at_iret (F := eqA ad) (ra := rI) hC dX11_out_91 rfl (Nat.le_refl 0) (Nat.le_refl 0) rfl
  · refine at_iconst hC ic_1 dX11_out_86 ?_
    refine at_goto (tgt := 91) hC dX11_out_87 rfl ?_
    exact at_iret (F := eqA ad) (ra := rI) hC dX11_out_91 rfl (Nat.le_refl 0) (Nat.le_refl 0) rfl
set_option maxRecDepth 100000 in
theorem c_M_out (σ : MS) (p0 : Int32) (p1 : Int32) (p2 : Int32) : Ct z (wM z τ) rI eqA yX11_out cX11_out 6 (some .int) 3 0 0 [.ref 0, .int p0, .int p1, .int p2] σ (M_out σ p0 p1 p2) := by
  refine Ct.of (by decide) (Nat.le_of_ble_eq_true rfl) (fun ad x hC hR _ => ?_)
  show AT z x 6 (wM z τ) rI (eqA ad) 0 0 0 0 ad 0 [(0, .ref 0), (1, .int p0), (2, .int p1), (3, .int p2)] [] σ (M_out σ p0 p1 p2)
  unfold M_out
  refine at_iload_n (j := 1) hC rfl rfl dX11_out_0 ?_
  refine at_iconst hC ic_0 dX11_out_1 ?_
  refine at_aload_n (j := 0) hC rfl rfl dX11_out_2 ?_
  refine gf_X11_326 hC dX11_out_3 ?_
  refine at_iconst hC ic_1 dX11_out_6 ?_
  refine at_isub hC dX11_out_7 ?_
  refine at_callSpI hC hR lk_X11_129 (c_M_in σ p0 0 ((σ.1 16) - 1)) dX11_out_8 rfl rfl ⟨by decide, by decide⟩ (Nat.le_of_ble_eq_true rfl) ⟨Nat.le_refl 0, Nat.le_refl 0⟩ (fun r1 _ => ?_)
  refine at_if_eq (tgt := 30) hC dX11_out_11 rfl (fun _ => ?_) (fun _ => ?_)
  · refine at_iconst hC ic_m1 dX11_out_30 ?_
    exact at_iret (F := eqA ad) (ra := rI) hC dX11_out_31 rfl (Nat.le_refl 0) (Nat.le_refl 0) rfl
  · refine at_iload_n (j := 2) hC rfl rfl dX11_out_14 ?_
    refine at_iconst hC ic_0 dX11_out_15 ?_
    refine at_aload_n (j := 0) hC rfl rfl dX11_out_16 ?_
    refine gf_X11_45 hC dX11_out_17 ?_
    refine at_iload_n (j := 1) hC rfl rfl dX11_out_20 ?_
    refine at_iald hC 12 dX11_out_21 cl_12 (fun v2 => ?_)
    refine at_iconst hC ic_1 dX11_out_22 ?_
    refine at_isub hC dX11_out_23 ?_
    refine at_callSpI hC hR lk_X11_129 (c_M_in σ p1 0 (v2 - 1)) dX11_out_24 rfl rfl ⟨by decide, by decide⟩ (Nat.le_of_ble_eq_true rfl) ⟨Nat.le_refl 0, Nat.le_refl 0⟩ (fun r3 _ => ?_)
    refine at_if_ne (tgt := 32) hC dX11_out_27 rfl (fun _ => ?_) (fun _ => ?_)
    · refine at_iload_n (j := 3) hC rfl rfl dX11_out_32 ?_
      refine at_callSpI hC hR lk_X11_177 (c_M_isDay σ p2) dX11_out_33 rfl rfl ⟨by decide, by decide⟩ (Nat.le_of_ble_eq_true rfl) ⟨Nat.le_refl 0, Nat.le_refl 0⟩ (fun r4 _ => ?_)
      refine at_if_ne (tgt := 42) hC dX11_out_36 rfl (fun _ => ?_) (fun _ => ?_)
      · refine at_bipush hC bi_8 dX11_out_42 ?_
        refine at_iload_n (j := 1) hC rfl rfl dX11_out_44 ?_
        refine at_imul hC dX11_out_45 ?_
        refine at_iload_n (j := 2) hC rfl rfl dX11_out_46 ?_
        refine at_iadd hC dX11_out_47 ?_
        refine at_istore (lv' := [(4, .int ((8 * p0) + p1)), (0, .ref 0), (1, .int p0), (2, .int p1), (3, .int p2)]) hC dX11_out_48 (by decide) rfl ?_
        refine at_aload_n (j := 1) hC rfl rfl dX11_out_50 ?_
        refine gf_X11_55 hC dX11_out_51 ?_
        refine at_iload (j := 0) hC rfl dX11_out_54 ?_
        refine at_iald hC 15 dX11_out_56 cl_15 (fun v5 => ?_)
        refine at_istore (lv' := [(5, .int v5), (4, .int ((8 * p0) + p1)), (0, .ref 0), (1, .int p0), (2, .int p1), (3, .int p2)]) hC dX11_out_57 (by decide) rfl ?_
        refine at_aload_n (j := 2) hC rfl rfl dX11_out_59 ?_
        refine gf_X11_55 hC dX11_out_60 ?_
        refine at_iload (j := 1) hC rfl dX11_out_63 ?_
        refine at_iload_n (j := 5) hC rfl rfl dX11_out_65 ?_
        refine at_iload (j := 0) hC rfl dX11_out_66 ?_
        refine at_icmp_ge (tgt := 75) hC dX11_out_68 rfl (fun _ => ?_) (fun _ => ?_)
        · refine at_iload (j := 0) hC rfl dX11_out_75 ?_
          refine at_drop (lv' := [(5, .int v5)]) [0] rfl ?_
          exact t_M_out_J77 hC hR σ v5 v5 ((8 * p0) + p1)
        · refine at_iload_n (j := 5) hC rfl rfl dX11_out_71 ?_
          refine at_goto (tgt := 77) hC dX11_out_72 rfl ?_
          refine at_drop (lv' := [(5, .int v5)]) [0] rfl ?_
          exact t_M_out_J77 hC hR σ v5 p2 ((8 * p0) + p1)
      · refine at_bipush hC bi_m2 dX11_out_39 ?_
        exact at_iret (F := eqA ad) (ra := rI) hC dX11_out_41 rfl (Nat.le_refl 0) (Nat.le_refl 0) rfl
    · refine at_iconst hC ic_m1 dX11_out_30 ?_
      exact at_iret (F := eqA ad) (ra := rI) hC dX11_out_31 rfl (Nat.le_refl 0) (Nat.le_refl 0) rfl
end G
