section G
variable {z : ZZ} {x : XX} {ad : Nat → Nat} {σ : MS}
theorem dX3_nextBegun_0 : decode cX3_nextBegun 0 = .ok (.iload_n 2, 1) := by decide +kernel
theorem dX3_nextBegun_1 : decode cX3_nextBegun 1 = .ok (.istore_n 3, 1) := by decide +kernel
theorem dX3_nextBegun_2 : decode cX3_nextBegun 2 = .ok (.iconst 0, 1) := by decide +kernel
theorem dX3_nextBegun_3 : decode cX3_nextBegun 3 = .ok (.istore 4, 2) := by decide +kernel
theorem dX3_nextBegun_5 : decode cX3_nextBegun 5 = .ok (.iload 4, 2) := by decide +kernel
theorem dX3_nextBegun_7 : decode cX3_nextBegun 7 = .ok (.aload_n 0, 1) := by decide +kernel
theorem dX3_nextBegun_8 : decode cX3_nextBegun 8 = .ok (.getfield 36, 3) := by decide +kernel
theorem dX3_nextBegun_11 : decode cX3_nextBegun 11 = .ok (.if_icmp .ge 55, 3) := by decide +kernel
theorem dX3_nextBegun_14 : decode cX3_nextBegun 14 = .ok (.aload_n 0, 1) := by decide +kernel
theorem dX3_nextBegun_15 : decode cX3_nextBegun 15 = .ok (.getfield 11, 3) := by decide +kernel
theorem dX3_nextBegun_18 : decode cX3_nextBegun 18 = .ok (.iload 4, 2) := by decide +kernel
theorem dX3_nextBegun_20 : decode cX3_nextBegun 20 = .ok (.aaload, 1) := by decide +kernel
theorem dX3_nextBegun_21 : decode cX3_nextBegun 21 = .ok (.astore 5, 2) := by decide +kernel
theorem dX3_nextBegun_23 : decode cX3_nextBegun 23 = .ok (.aload 5, 2) := by decide +kernel
theorem dX3_nextBegun_25 : decode cX3_nextBegun 25 = .ok (.ifnull 35, 3) := by decide +kernel
theorem dX3_nextBegun_28 : decode cX3_nextBegun 28 = .ok (.aload 5, 2) := by decide +kernel
theorem dX3_nextBegun_30 : decode cX3_nextBegun 30 = .ok (.getfield 123, 3) := by decide +kernel
theorem dX3_nextBegun_33 : decode cX3_nextBegun 33 = .ok (.ifCond .eq 27, 3) := by decide +kernel
theorem dX3_nextBegun_36 : decode cX3_nextBegun 36 = .ok (.aload 5, 2) := by decide +kernel
theorem dX3_nextBegun_38 : decode cX3_nextBegun 38 = .ok (.getfield 44, 3) := by decide +kernel
theorem dX3_nextBegun_41 : decode cX3_nextBegun 41 = .ok (.iload_n 1, 1) := by decide +kernel
theorem dX3_nextBegun_42 : decode cX3_nextBegun 42 = .ok (.if_icmp .le 18, 3) := by decide +kernel
theorem dX3_nextBegun_45 : decode cX3_nextBegun 45 = .ok (.aload 5, 2) := by decide +kernel
theorem dX3_nextBegun_47 : decode cX3_nextBegun 47 = .ok (.getfield 44, 3) := by decide +kernel
theorem dX3_nextBegun_50 : decode cX3_nextBegun 50 = .ok (.iload_n 3, 1) := by decide +kernel
theorem dX3_nextBegun_51 : decode cX3_nextBegun 51 = .ok (.if_icmp .ge 9, 3) := by decide +kernel
theorem dX3_nextBegun_54 : decode cX3_nextBegun 54 = .ok (.aload 5, 2) := by decide +kernel
theorem dX3_nextBegun_56 : decode cX3_nextBegun 56 = .ok (.getfield 44, 3) := by decide +kernel
theorem dX3_nextBegun_59 : decode cX3_nextBegun 59 = .ok (.istore_n 3, 1) := by decide +kernel
theorem dX3_nextBegun_60 : decode cX3_nextBegun 60 = .ok (.iinc 4 1, 3) := by decide +kernel
theorem dX3_nextBegun_63 : decode cX3_nextBegun 63 = .ok (.goto (-58), 3) := by decide +kernel
theorem dX3_nextBegun_66 : decode cX3_nextBegun 66 = .ok (.iload_n 3, 1) := by decide +kernel
theorem dX3_nextBegun_67 : decode cX3_nextBegun 67 = .ok (.ireturn, 1) := by decide +kernel
set_option maxRecDepth 100000 in
theorem t_Lw_nextBegun_J60 (hC : CX z ad x cX3_nextBegun RX3 6 (some .int)) (hR : x.2.2.1 = rmk 1 0 0) (τ : XS) (k_5 : Int32 → Int32 → Int32 → Option Int32) (hk_5 : ∀ (a1 : Int32) (a3 : Int32) (a4 : Int32), AT z x 6 (wX z σ) rI (eqA ad) 0 0 0 0 ad 5 [(0, .ref 57), (1, .int a1), (3, .int a3), (4, .int a4)] [] τ ((k_5 a1 a3 a4).map fun r => (r, τ))) (a1 : Int32) (a3 : Int32) (a4 : Int32) : AT z x 6 (wX z σ) rI (eqA ad) 0 0 0 0 ad 60 [(0, .ref 57), (1, .int a1), (3, .int a3), (4, .int a4)] [] τ ((Lw_nextBegun_J60 k_5 τ a1 a3 a4).map fun r => (r, τ)) := by
  unfold Lw_nextBegun_J60
  refine at_iinc (j := 3) (v := a4 + 1) (lv' := [(4, .int (a4 + 1)), (0, .ref 57), (1, .int a1), (3, .int a3)]) hC dX3_nextBegun_60 rfl rfl (by decide) rfl ?_
  refine at_goto (tgt := 5) hC dX3_nextBegun_63 rfl ?_
  refine at_drop (lv' := [(0, .ref 57), (1, .int a1), (3, .int a3), (4, .int (a4 + 1))]) [1, 2, 3, 0] rfl ?_
  exact hk_5 a1 a3 (a4 + 1)
set_option maxRecDepth 100000 in
theorem t_Lw_nextBegun_L5 (hC : CX z ad x cX3_nextBegun RX3 6 (some .int)) (hR : x.2.2.1 = rmk 1 0 0) (τ : XS) (n : Nat) (a1 : Int32) (a3 : Int32) (a4 : Int32) : AT z x 6 (wX z σ) rI (eqA ad) 0 0 0 0 ad 5 [(0, .ref 57), (1, .int a1), (3, .int a3), (4, .int a4)] [] τ ((Lw_nextBegun_L5 n τ a1 a3 a4).map fun r => (r, τ)) := by
  revert a1 a3 a4
  show ∀ (a1 : Int32) (a3 : Int32) (a4 : Int32), AT z x 6 (wX z σ) rI (eqA ad) 0 0 0 0 ad 5 [(0, .ref 57), (1, .int a1), (3, .int a3), (4, .int a4)] [] τ ((Lw_nextBegun_L5_r τ n a1 a3 a4).map fun r => (r, τ))
  induction n with
  | zero => intro a1 a3 a4; exact ap_none
  | succ n hk_5 =>
    intro a1 a3 a4
    unfold Lw_nextBegun_L5_r
    refine at_iload (j := 3) hC rfl dX3_nextBegun_5 ?_
    refine at_aload_n (j := 0) hC rfl rfl dX3_nextBegun_7 ?_
    refine gf_X3_36 hC dX3_nextBegun_8 ?_
    refine ap_icmp_ge (tgt := 66) hC dX3_nextBegun_11 rfl (fun _ => ?_) (fun _ => ?_)
    · refine at_iload_n (j := 2) hC rfl rfl dX3_nextBegun_66 ?_
      exact at_iret (F := eqA ad) (ra := rI) hC dX3_nextBegun_67 rfl (Nat.le_refl 0) (Nat.le_refl 0) rfl
    · refine at_aload_n (j := 0) hC rfl rfl dX3_nextBegun_14 ?_
      refine gf_X3_11 hC dX3_nextBegun_15 ?_
      refine at_iload (j := 3) hC rfl dX3_nextBegun_18 ?_
      refine ap_aldq hC 58 dX3_nextBegun_20 cl_58 (fun v1 => ?_)
      refine at_astoreV (lv' := [(5, vr v1), (0, .ref 57), (1, .int a1), (3, .int a3), (4, .int a4)]) hC dX3_nextBegun_21 (by decide) rfl ?_
      refine at_aloadV (j := 0) hC rfl dX3_nextBegun_23 ?_
      refine ap_ifnull (tgt := 60) hC dX3_nextBegun_25 rfl ?_ ?_
      · refine at_drop (lv' := [(0, .ref 57), (1, .int a1), (3, .int a3), (4, .int a4)]) [1, 2, 3, 4] rfl ?_
        exact t_Lw_nextBegun_J60 hC hR τ (Lw_nextBegun_L5_r τ n) hk_5 a1 a3 a4
      · refine at_aloadV (j := 0) hC rfl dX3_nextBegun_28 ?_
        refine ap_oA (pre := []) rfl (fun a_1 _ hg1 => ?_)
        refine at_get (v := .int (tF τ a_1 1)) (C := RX0) (T := TX0) (N := 10) (ci := 0) (j := 1) hC (80 + 7 * a_1) dX3_nextBegun_30 inX0 (cla hg1) rfl (by decide) lf_X3_123 rfl rfl ?_
        refine ap_if_eq (tgt := 60) hC dX3_nextBegun_33 rfl (fun _ => ?_) (fun _ => ?_)
        · refine at_drop (lv' := [(0, .ref 57), (1, .int a1), (3, .int a3), (4, .int a4)]) [1, 2, 3, 4] rfl ?_
          exact t_Lw_nextBegun_J60 hC hR τ (Lw_nextBegun_L5_r τ n) hk_5 a1 a3 a4
        · refine at_aloadV (j := 0) hC rfl dX3_nextBegun_36 ?_
          refine ap_oA (pre := []) rfl (fun a_2 _ hg2 => ?_)
          refine at_get (v := .int (tF τ a_2 0)) (C := RX0) (T := TX0) (N := 10) (ci := 0) (j := 0) hC (80 + 7 * a_2) dX3_nextBegun_38 inX0 (cla hg2) rfl (by decide) lf_X3_44 rfl rfl ?_
          refine at_iload_n (j := 2) hC rfl rfl dX3_nextBegun_41 ?_
          refine ap_icmp_le (tgt := 60) hC dX3_nextBegun_42 rfl (fun _ => ?_) (fun _ => ?_)
          · refine at_drop (lv' := [(0, .ref 57), (1, .int a1), (3, .int a3), (4, .int a4)]) [1, 2, 3, 4] rfl ?_
            exact t_Lw_nextBegun_J60 hC hR τ (Lw_nextBegun_L5_r τ n) hk_5 a1 a3 a4
          · refine at_aloadV (j := 0) hC rfl dX3_nextBegun_45 ?_
            refine ap_oA (pre := []) rfl (fun a_3 _ hg3 => ?_)
            refine at_get (v := .int (tF τ a_3 0)) (C := RX0) (T := TX0) (N := 10) (ci := 0) (j := 0) hC (80 + 7 * a_3) dX3_nextBegun_47 inX0 (cla hg3) rfl (by decide) lf_X3_44 rfl rfl ?_
            refine at_iload_n (j := 3) hC rfl rfl dX3_nextBegun_50 ?_
            refine ap_icmp_ge (tgt := 60) hC dX3_nextBegun_51 rfl (fun _ => ?_) (fun _ => ?_)
            · refine at_drop (lv' := [(0, .ref 57), (1, .int a1), (3, .int a3), (4, .int a4)]) [1, 2, 3, 4] rfl ?_
              exact t_Lw_nextBegun_J60 hC hR τ (Lw_nextBegun_L5_r τ n) hk_5 a1 a3 a4
            · refine at_aloadV (j := 0) hC rfl dX3_nextBegun_54 ?_
              refine ap_oA (pre := []) rfl (fun a_4 _ hg4 => ?_)
              refine at_get (v := .int (tF τ a_4 0)) (C := RX0) (T := TX0) (N := 10) (ci := 0) (j := 0) hC (80 + 7 * a_4) dX3_nextBegun_56 inX0 (cla hg4) rfl (by decide) lf_X3_44 rfl rfl ?_
              refine at_istore_n (lv' := [(3, .int (tF τ a_4 0)), (5, vr v1), (0, .ref 57), (1, .int a1), (4, .int a4)]) hC rfl dX3_nextBegun_59 (by decide) rfl ?_
              refine at_drop (lv' := [(0, .ref 57), (1, .int a1), (3, .int (tF τ a_4 0)), (4, .int a4)]) [2, 3, 0, 4] rfl ?_
              exact t_Lw_nextBegun_J60 hC hR τ (Lw_nextBegun_L5_r τ n) hk_5 a1 (tF τ a_4 0) a4
set_option maxRecDepth 100000 in
theorem c_Lw_nextBegun (τ : XS) (p0 : Int32) (p1 : Int32) : Ct z (wX z σ) rI eqA yX3_nextBegun cX3_nextBegun 6 (some .int) 1 0 0 [.ref 57, .int p0, .int p1] τ ((Lw_nextBegun τ p0 p1).map fun r => (r, τ)) := by
  refine Ct.of (by decide) (Nat.le_of_ble_eq_true rfl) (fun ad x hC hR _ => ?_)
  show AT z x 6 (wX z σ) rI (eqA ad) 0 0 0 0 ad 0 [(0, .ref 57), (1, .int p0), (2, .int p1)] [] τ ((Lw_nextBegun τ p0 p1).map fun r => (r, τ))
  unfold Lw_nextBegun
  refine at_iload_n (j := 2) hC rfl rfl dX3_nextBegun_0 ?_
  refine at_istore_n (lv' := [(3, .int p1), (0, .ref 57), (1, .int p0), (2, .int p1)]) hC rfl dX3_nextBegun_1 (by decide) rfl ?_
  refine at_iconst hC ic_0 dX3_nextBegun_2 ?_
  refine at_istore (lv' := [(4, .int 0), (3, .int p1), (0, .ref 57), (1, .int p0), (2, .int p1)]) hC dX3_nextBegun_3 (by decide) rfl ?_
  refine at_drop (lv' := [(0, .ref 57), (1, .int p0), (3, .int p1), (4, .int 0)]) [2, 3, 1, 0] rfl ?_
  exact t_Lw_nextBegun_L5 hC hR τ 100000 p0 p1 0
theorem dX2_sooner_0 : decode cX2_sooner 0 = .ok (.iload_n 1, 1) := by decide +kernel
theorem dX2_sooner_1 : decode cX2_sooner 1 = .ok (.iload_n 2, 1) := by decide +kernel
theorem dX2_sooner_2 : decode cX2_sooner 2 = .ok (.if_icmp .le 12, 3) := by decide +kernel
theorem dX2_sooner_5 : decode cX2_sooner 5 = .ok (.iload_n 1, 1) := by decide +kernel
theorem dX2_sooner_6 : decode cX2_sooner 6 = .ok (.iload_n 0, 1) := by decide +kernel
theorem dX2_sooner_7 : decode cX2_sooner 7 = .ok (.if_icmp .ge 7, 3) := by decide +kernel
theorem dX2_sooner_10 : decode cX2_sooner 10 = .ok (.iload_n 1, 1) := by decide +kernel
theorem dX2_sooner_11 : decode cX2_sooner 11 = .ok (.goto 4, 3) := by decide +kernel
theorem dX2_sooner_14 : decode cX2_sooner 14 = .ok (.iload_n 0, 1) := by decide +kernel
theorem dX2_sooner_15 : decode cX2_sooner 15 = .ok (.ireturn, 1) := by decide +kernel
set_option maxRecDepth 100000 in
theorem c_Cn_sooner (τ : XS) (p0 : Int32) (p1 : Int32) (p2 : Int32) : Ct z (wX z σ) rI eqA yX2_sooner cX2_sooner 3 (some .int) 1 0 0 [.int p0, .int p1, .int p2] τ ((Cn_sooner τ p0 p1 p2).map fun r => (r, τ)) := by
  refine Ct.of (by decide) (Nat.le_of_ble_eq_true rfl) (fun ad x hC hR _ => ?_)
  show AT z x 3 (wX z σ) rI (eqA ad) 0 0 0 0 ad 0 [(0, .int p0), (1, .int p1), (2, .int p2)] [] τ ((Cn_sooner τ p0 p1 p2).map fun r => (r, τ))
  unfold Cn_sooner
  refine at_iload_n (j := 1) hC rfl rfl dX2_sooner_0 ?_
  refine at_iload_n (j := 2) hC rfl rfl dX2_sooner_1 ?_
  refine ap_icmp_le (tgt := 14) hC dX2_sooner_2 rfl (fun _ => ?_) (fun _ => ?_)
  · refine at_iload_n (j := 0) hC rfl rfl dX2_sooner_14 ?_
    exact at_iret (F := eqA ad) (ra := rI) hC dX2_sooner_15 rfl (Nat.le_refl 0) (Nat.le_refl 0) rfl
  · refine at_iload_n (j := 1) hC rfl rfl dX2_sooner_5 ?_
    refine at_iload_n (j := 0) hC rfl rfl dX2_sooner_6 ?_
    refine ap_icmp_ge (tgt := 14) hC dX2_sooner_7 rfl (fun _ => ?_) (fun _ => ?_)
    · refine at_iload_n (j := 0) hC rfl rfl dX2_sooner_14 ?_
      exact at_iret (F := eqA ad) (ra := rI) hC dX2_sooner_15 rfl (Nat.le_refl 0) (Nat.le_refl 0) rfl
    · refine at_iload_n (j := 1) hC rfl rfl dX2_sooner_10 ?_
      refine at_goto (tgt := 15) hC dX2_sooner_11 rfl ?_
      exact at_iret (F := eqA ad) (ra := rI) hC dX2_sooner_15 rfl (Nat.le_refl 0) (Nat.le_refl 0) rfl
theorem dX2_nextChange_0 : decode cX2_nextChange 0 = .ok (.aload_n 0, 1) := by decide +kernel
theorem dX2_nextChange_1 : decode cX2_nextChange 1 = .ok (.getfield 23, 3) := by decide +kernel
theorem dX2_nextChange_4 : decode cX2_nextChange 4 = .ok (.iload_n 2, 1) := by decide +kernel
theorem dX2_nextChange_5 : decode cX2_nextChange 5 = .ok (.iload_n 3, 1) := by decide +kernel
theorem dX2_nextChange_6 : decode cX2_nextChange 6 = .ok (.invokevirtual 174, 3) := by decide +kernel
theorem dX2_nextChange_9 : decode cX2_nextChange 9 = .ok (.aload_n 0, 1) := by decide +kernel
theorem dX2_nextChange_10 : decode cX2_nextChange 10 = .ok (.getfield 19, 3) := by decide +kernel
theorem dX2_nextChange_13 : decode cX2_nextChange 13 = .ok (.getfield 59, 3) := by decide +kernel
theorem dX2_nextChange_16 : decode cX2_nextChange 16 = .ok (.iload_n 1, 1) := by decide +kernel
theorem dX2_nextChange_17 : decode cX2_nextChange 17 = .ok (.iaload, 1) := by decide +kernel
theorem dX2_nextChange_18 : decode cX2_nextChange 18 = .ok (.iload_n 2, 1) := by decide +kernel
theorem dX2_nextChange_19 : decode cX2_nextChange 19 = .ok (.invokestatic 177, 3) := by decide +kernel
theorem dX2_nextChange_22 : decode cX2_nextChange 22 = .ok (.istore 4, 2) := by decide +kernel
theorem dX2_nextChange_24 : decode cX2_nextChange 24 = .ok (.aload_n 0, 1) := by decide +kernel
theorem dX2_nextChange_25 : decode cX2_nextChange 25 = .ok (.getfield 19, 3) := by decide +kernel
theorem dX2_nextChange_28 : decode cX2_nextChange 28 = .ok (.getfield 121, 3) := by decide +kernel
theorem dX2_nextChange_31 : decode cX2_nextChange 31 = .ok (.iload_n 1, 1) := by decide +kernel
theorem dX2_nextChange_32 : decode cX2_nextChange 32 = .ok (.iaload, 1) := by decide +kernel
theorem dX2_nextChange_33 : decode cX2_nextChange 33 = .ok (.istore 5, 2) := by decide +kernel
theorem dX2_nextChange_35 : decode cX2_nextChange 35 = .ok (.iload 5, 2) := by decide +kernel
theorem dX2_nextChange_37 : decode cX2_nextChange 37 = .ok (.aload_n 0, 1) := by decide +kernel
theorem dX2_nextChange_38 : decode cX2_nextChange 38 = .ok (.getfield 19, 3) := by decide +kernel
theorem dX2_nextChange_41 : decode cX2_nextChange 41 = .ok (.getfield 124, 3) := by decide +kernel
theorem dX2_nextChange_44 : decode cX2_nextChange 44 = .ok (.iload_n 1, 1) := by decide +kernel
theorem dX2_nextChange_45 : decode cX2_nextChange 45 = .ok (.iaload, 1) := by decide +kernel
theorem dX2_nextChange_46 : decode cX2_nextChange 46 = .ok (.if_icmp .ge 65, 3) := by decide +kernel
theorem dX2_nextChange_49 : decode cX2_nextChange 49 = .ok (.aload_n 0, 1) := by decide +kernel
theorem dX2_nextChange_50 : decode cX2_nextChange 50 = .ok (.getfield 19, 3) := by decide +kernel
theorem dX2_nextChange_53 : decode cX2_nextChange 53 = .ok (.getfield 127, 3) := by decide +kernel
theorem dX2_nextChange_56 : decode cX2_nextChange 56 = .ok (.iload 5, 2) := by decide +kernel
theorem dX2_nextChange_58 : decode cX2_nextChange 58 = .ok (.iaload, 1) := by decide +kernel
theorem dX2_nextChange_59 : decode cX2_nextChange 59 = .ok (.istore 6, 2) := by decide +kernel
theorem dX2_nextChange_61 : decode cX2_nextChange 61 = .ok (.iload 4, 2) := by decide +kernel
theorem dX2_nextChange_63 : decode cX2_nextChange 63 = .ok (.aload_n 0, 1) := by decide +kernel
theorem dX2_nextChange_64 : decode cX2_nextChange 64 = .ok (.getfield 15, 3) := by decide +kernel
theorem dX2_nextChange_67 : decode cX2_nextChange 67 = .ok (.getfield 108, 3) := by decide +kernel
theorem dX2_nextChange_70 : decode cX2_nextChange 70 = .ok (.iload 6, 2) := by decide +kernel
theorem dX2_nextChange_72 : decode cX2_nextChange 72 = .ok (.iaload, 1) := by decide +kernel
theorem dX2_nextChange_73 : decode cX2_nextChange 73 = .ok (.iload_n 2, 1) := by decide +kernel
theorem dX2_nextChange_74 : decode cX2_nextChange 74 = .ok (.invokestatic 177, 3) := by decide +kernel
theorem dX2_nextChange_77 : decode cX2_nextChange 77 = .ok (.istore 4, 2) := by decide +kernel
theorem dX2_nextChange_79 : decode cX2_nextChange 79 = .ok (.iload 4, 2) := by decide +kernel
theorem dX2_nextChange_81 : decode cX2_nextChange 81 = .ok (.aload_n 0, 1) := by decide +kernel
theorem dX2_nextChange_82 : decode cX2_nextChange 82 = .ok (.getfield 19, 3) := by decide +kernel
theorem dX2_nextChange_85 : decode cX2_nextChange 85 = .ok (.getfield 59, 3) := by decide +kernel
theorem dX2_nextChange_88 : decode cX2_nextChange 88 = .ok (.aload_n 0, 1) := by decide +kernel
theorem dX2_nextChange_89 : decode cX2_nextChange 89 = .ok (.getfield 15, 3) := by decide +kernel
theorem dX2_nextChange_92 : decode cX2_nextChange 92 = .ok (.getfield 118, 3) := by decide +kernel
theorem dX2_nextChange_95 : decode cX2_nextChange 95 = .ok (.iload 6, 2) := by decide +kernel
theorem dX2_nextChange_97 : decode cX2_nextChange 97 = .ok (.iaload, 1) := by decide +kernel
theorem dX2_nextChange_98 : decode cX2_nextChange 98 = .ok (.iaload, 1) := by decide +kernel
theorem dX2_nextChange_99 : decode cX2_nextChange 99 = .ok (.iload_n 2, 1) := by decide +kernel
theorem dX2_nextChange_100 : decode cX2_nextChange 100 = .ok (.invokestatic 177, 3) := by decide +kernel
theorem dX2_nextChange_103 : decode cX2_nextChange 103 = .ok (.istore 4, 2) := by decide +kernel
theorem dX2_nextChange_105 : decode cX2_nextChange 105 = .ok (.iinc 5 1, 3) := by decide +kernel
theorem dX2_nextChange_108 : decode cX2_nextChange 108 = .ok (.goto (-73), 3) := by decide +kernel
theorem dX2_nextChange_111 : decode cX2_nextChange 111 = .ok (.iload 4, 2) := by decide +kernel
theorem dX2_nextChange_113 : decode cX2_nextChange 113 = .ok (.ireturn, 1) := by decide +kernel
set_option maxRecDepth 100000 in
theorem t_Cn_nextChange_L35 (hC : CX z ad x cX2_nextChange RX2 7 (some .int)) (hR : x.2.2.1 = rmk 2 0 0) (τ : XS) (n : Nat) (a1 : Int32) (a2 : Int32) (a4 : Int32) (a5 : Int32) : AT z x 7 (wX z σ) rI (eqA ad) 0 0 0 0 ad 35 [(0, .ref 76), (1, .int a1), (2, .int a2), (4, .int a4), (5, .int a5)] [] τ ((Cn_nextChange_L35 n τ a1 a2 a4 a5).map fun r => (r, τ)) := by
  revert a1 a2 a4 a5
  show ∀ (a1 : Int32) (a2 : Int32) (a4 : Int32) (a5 : Int32), AT z x 7 (wX z σ) rI (eqA ad) 0 0 0 0 ad 35 [(0, .ref 76), (1, .int a1), (2, .int a2), (4, .int a4), (5, .int a5)] [] τ ((Cn_nextChange_L35_r τ n a1 a2 a4 a5).map fun r => (r, τ))
  induction n with
  | zero => intro a1 a2 a4 a5; exact ap_none
  | succ n hk_35 =>
    intro a1 a2 a4 a5
    unfold Cn_nextChange_L35_r
    refine at_iload (j := 4) hC rfl dX2_nextChange_35 ?_
    refine at_aload_n (j := 0) hC rfl rfl dX2_nextChange_37 ?_
    refine gf_X2_19 hC dX2_nextChange_38 ?_
    refine gf_X2_124 hC dX2_nextChange_41 ?_
    refine at_iload_n (j := 1) hC rfl rfl dX2_nextChange_44 ?_
    refine ap_iald hC 52 dX2_nextChange_45 cl_52 (fun v5 => ?_)
    refine ap_icmp_ge (tgt := 111) hC dX2_nextChange_46 rfl (fun _ => ?_) (fun _ => ?_)
    · refine at_iload (j := 3) hC rfl dX2_nextChange_111 ?_
      exact at_iret (F := eqA ad) (ra := rI) hC dX2_nextChange_113 rfl (Nat.le_refl 0) (Nat.le_refl 0) rfl
    · refine at_aload_n (j := 0) hC rfl rfl dX2_nextChange_49 ?_
      refine gf_X2_19 hC dX2_nextChange_50 ?_
      refine gf_X2_127 hC dX2_nextChange_53 ?_
      refine at_iload (j := 4) hC rfl dX2_nextChange_56 ?_
      refine ap_iald hC 53 dX2_nextChange_58 cl_53 (fun v6 => ?_)
      refine at_istore (lv' := [(6, .int v6), (0, .ref 76), (1, .int a1), (2, .int a2), (4, .int a4), (5, .int a5)]) hC dX2_nextChange_59 (by decide) rfl ?_
      refine at_iload (j := 4) hC rfl dX2_nextChange_61 ?_
      refine at_aload_n (j := 1) hC rfl rfl dX2_nextChange_63 ?_
      refine gf_X2_15 hC dX2_nextChange_64 ?_
      refine gf_X2_108 hC dX2_nextChange_67 ?_
      refine at_iload (j := 0) hC rfl dX2_nextChange_70 ?_
      refine ap_iald hC 45 dX2_nextChange_72 cl_45 (fun v7 => ?_)
      refine at_iload_n (j := 3) hC rfl rfl dX2_nextChange_73 ?_
      refine ap_callSI hC hR lk_X2_177 (c_Cn_sooner τ a4 v7 a2) dX2_nextChange_74 rfl rfl ⟨by decide, by decide⟩ (Nat.le_of_ble_eq_true rfl) ⟨Nat.le_refl 0, Nat.le_refl 0⟩ (fun r8 _ => ?_)
      refine at_istore (lv' := [(4, .int r8), (6, .int v6), (0, .ref 76), (1, .int a1), (2, .int a2), (5, .int a5)]) hC dX2_nextChange_77 (by decide) rfl ?_
      refine at_iload (j := 0) hC rfl dX2_nextChange_79 ?_
      refine at_aload_n (j := 2) hC rfl rfl dX2_nextChange_81 ?_
      refine gf_X2_19 hC dX2_nextChange_82 ?_
      refine gf_X2_59 hC dX2_nextChange_85 ?_
      refine at_aload_n (j := 2) hC rfl rfl dX2_nextChange_88 ?_
      refine gf_X2_15 hC dX2_nextChange_89 ?_
      refine gf_X2_118 hC dX2_nextChange_92 ?_
      refine at_iload (j := 1) hC rfl dX2_nextChange_95 ?_
      refine ap_iald hC 43 dX2_nextChange_97 cl_43 (fun v9 => ?_)
      refine ap_iald hC 50 dX2_nextChange_98 cl_50 (fun v10 => ?_)
      refine at_iload_n (j := 4) hC rfl rfl dX2_nextChange_99 ?_
      refine ap_callSI hC hR lk_X2_177 (c_Cn_sooner τ r8 v10 a2) dX2_nextChange_100 rfl rfl ⟨by decide, by decide⟩ (Nat.le_of_ble_eq_true rfl) ⟨Nat.le_refl 0, Nat.le_refl 0⟩ (fun r11 _ => ?_)
      refine at_istore (lv' := [(4, .int r11), (6, .int v6), (0, .ref 76), (1, .int a1), (2, .int a2), (5, .int a5)]) hC dX2_nextChange_103 (by decide) rfl ?_
      refine at_iinc (j := 5) (v := a5 + 1) (lv' := [(5, .int (a5 + 1)), (4, .int r11), (6, .int v6), (0, .ref 76), (1, .int a1), (2, .int a2)]) hC dX2_nextChange_105 rfl rfl (by decide) rfl ?_
      refine at_goto (tgt := 35) hC dX2_nextChange_108 rfl ?_
      refine at_drop (lv' := [(0, .ref 76), (1, .int a1), (2, .int a2), (4, .int r11), (5, .int (a5 + 1))]) [3, 4, 5, 1, 0] rfl ?_
      exact hk_35 a1 a2 r11 (a5 + 1)
set_option maxRecDepth 100000 in
theorem c_Cn_nextChange (τ : XS) (p0 : Int32) (p1 : Int32) (p2 : Int32) : Ct z (wX z σ) rI eqA yX2_nextChange cX2_nextChange 7 (some .int) 2 0 0 [.ref 76, .int p0, .int p1, .int p2] τ ((Cn_nextChange τ p0 p1 p2).map fun r => (r, τ)) := by
  refine Ct.of (by decide) (Nat.le_of_ble_eq_true rfl) (fun ad x hC hR _ => ?_)
  show AT z x 7 (wX z σ) rI (eqA ad) 0 0 0 0 ad 0 [(0, .ref 76), (1, .int p0), (2, .int p1), (3, .int p2)] [] τ ((Cn_nextChange τ p0 p1 p2).map fun r => (r, τ))
  unfold Cn_nextChange
  refine at_aload_n (j := 0) hC rfl rfl dX2_nextChange_0 ?_
  refine gf_X2_23 hC dX2_nextChange_1 ?_
  refine at_iload_n (j := 2) hC rfl rfl dX2_nextChange_4 ?_
  refine at_iload_n (j := 3) hC rfl rfl dX2_nextChange_5 ?_
  refine ap_callVI hC hR lk_X2_174 (c_Lw_nextBegun τ p1 p2) dX2_nextChange_6 recX3 rfl rfl ⟨by decide, by decide⟩ (Nat.le_of_ble_eq_true rfl) ⟨Nat.le_refl 0, Nat.le_refl 0⟩ (fun r1 _ => ?_)
  refine at_aload_n (j := 0) hC rfl rfl dX2_nextChange_9 ?_
  refine gf_X2_19 hC dX2_nextChange_10 ?_
  refine gf_X2_59 hC dX2_nextChange_13 ?_
  refine at_iload_n (j := 1) hC rfl rfl dX2_nextChange_16 ?_
  refine ap_iald hC 50 dX2_nextChange_17 cl_50 (fun v2 => ?_)
  refine at_iload_n (j := 2) hC rfl rfl dX2_nextChange_18 ?_
  refine ap_callSI hC hR lk_X2_177 (c_Cn_sooner τ r1 v2 p1) dX2_nextChange_19 rfl rfl ⟨by decide, by decide⟩ (Nat.le_of_ble_eq_true rfl) ⟨Nat.le_refl 0, Nat.le_refl 0⟩ (fun r3 _ => ?_)
  refine at_istore (lv' := [(4, .int r3), (0, .ref 76), (1, .int p0), (2, .int p1), (3, .int p2)]) hC dX2_nextChange_22 (by decide) rfl ?_
  refine at_aload_n (j := 1) hC rfl rfl dX2_nextChange_24 ?_
  refine gf_X2_19 hC dX2_nextChange_25 ?_
  refine gf_X2_121 hC dX2_nextChange_28 ?_
  refine at_iload_n (j := 2) hC rfl rfl dX2_nextChange_31 ?_
  refine ap_iald hC 51 dX2_nextChange_32 cl_51 (fun v4 => ?_)
  refine at_istore (lv' := [(5, .int v4), (4, .int r3), (0, .ref 76), (1, .int p0), (2, .int p1), (3, .int p2)]) hC dX2_nextChange_33 (by decide) rfl ?_
  refine at_drop (lv' := [(0, .ref 76), (1, .int p0), (2, .int p1), (4, .int r3), (5, .int v4)]) [2, 3, 4, 1, 0] rfl ?_
  exact t_Cn_nextChange_L35 hC hR τ 100000 p0 p1 r3 v4
theorem dX2_rentOf_0 : decode cX2_rentOf 0 = .ok (.iload_n 2, 1) := by decide +kernel
theorem dX2_rentOf_1 : decode cX2_rentOf 1 = .ok (.bipush 100, 2) := by decide +kernel
theorem dX2_rentOf_3 : decode cX2_rentOf 3 = .ok (.imul, 1) := by decide +kernel
theorem dX2_rentOf_4 : decode cX2_rentOf 4 = .ok (.bipush 100, 2) := by decide +kernel
theorem dX2_rentOf_6 : decode cX2_rentOf 6 = .ok (.iadd, 1) := by decide +kernel
theorem dX2_rentOf_7 : decode cX2_rentOf 7 = .ok (.istore_n 3, 1) := by decide +kernel
theorem dX2_rentOf_8 : decode cX2_rentOf 8 = .ok (.iload_n 2, 1) := by decide +kernel
theorem dX2_rentOf_9 : decode cX2_rentOf 9 = .ok (.bipush 100, 2) := by decide +kernel
theorem dX2_rentOf_11 : decode cX2_rentOf 11 = .ok (.imul, 1) := by decide +kernel
theorem dX2_rentOf_12 : decode cX2_rentOf 12 = .ok (.istore 4, 2) := by decide +kernel
theorem dX2_rentOf_14 : decode cX2_rentOf 14 = .ok (.lconst 0, 1) := by decide +kernel
theorem dX2_rentOf_15 : decode cX2_rentOf 15 = .ok (.lstore 5, 2) := by decide +kernel
theorem dX2_rentOf_17 : decode cX2_rentOf 17 = .ok (.iconst 0, 1) := by decide +kernel
theorem dX2_rentOf_18 : decode cX2_rentOf 18 = .ok (.istore 7, 2) := by decide +kernel
theorem dX2_rentOf_20 : decode cX2_rentOf 20 = .ok (.iload 7, 2) := by decide +kernel
theorem dX2_rentOf_22 : decode cX2_rentOf 22 = .ok (.bipush 100, 2) := by decide +kernel
theorem dX2_rentOf_24 : decode cX2_rentOf 24 = .ok (.if_icmp .ge 48, 3) := by decide +kernel
theorem dX2_rentOf_27 : decode cX2_rentOf 27 = .ok (.iload 4, 2) := by decide +kernel
theorem dX2_rentOf_29 : decode cX2_rentOf 29 = .ok (.iload_n 3, 1) := by decide +kernel
theorem dX2_rentOf_30 : decode cX2_rentOf 30 = .ok (.if_icmp .ge 42, 3) := by decide +kernel
theorem dX2_rentOf_33 : decode cX2_rentOf 33 = .ok (.aload_n 0, 1) := by decide +kernel
theorem dX2_rentOf_34 : decode cX2_rentOf 34 = .ok (.iload_n 1, 1) := by decide +kernel
theorem dX2_rentOf_35 : decode cX2_rentOf 35 = .ok (.iload 4, 2) := by decide +kernel
theorem dX2_rentOf_37 : decode cX2_rentOf 37 = .ok (.iload_n 3, 1) := by decide +kernel
theorem dX2_rentOf_38 : decode cX2_rentOf 38 = .ok (.invokevirtual 168, 3) := by decide +kernel
theorem dX2_rentOf_41 : decode cX2_rentOf 41 = .ok (.istore 8, 2) := by decide +kernel
theorem dX2_rentOf_43 : decode cX2_rentOf 43 = .ok (.lload 5, 2) := by decide +kernel
theorem dX2_rentOf_45 : decode cX2_rentOf 45 = .ok (.aload_n 0, 1) := by decide +kernel
theorem dX2_rentOf_46 : decode cX2_rentOf 46 = .ok (.iload_n 1, 1) := by decide +kernel
theorem dX2_rentOf_47 : decode cX2_rentOf 47 = .ok (.iload 4, 2) := by decide +kernel
theorem dX2_rentOf_49 : decode cX2_rentOf 49 = .ok (.invokevirtual 171, 3) := by decide +kernel
theorem dX2_rentOf_52 : decode cX2_rentOf 52 = .ok (.iload 8, 2) := by decide +kernel
theorem dX2_rentOf_54 : decode cX2_rentOf 54 = .ok (.iload 4, 2) := by decide +kernel
theorem dX2_rentOf_56 : decode cX2_rentOf 56 = .ok (.isub, 1) := by decide +kernel
theorem dX2_rentOf_57 : decode cX2_rentOf 57 = .ok (.i2l, 1) := by decide +kernel
theorem dX2_rentOf_58 : decode cX2_rentOf 58 = .ok (.lmul, 1) := by decide +kernel
theorem dX2_rentOf_59 : decode cX2_rentOf 59 = .ok (.ladd, 1) := by decide +kernel
theorem dX2_rentOf_60 : decode cX2_rentOf 60 = .ok (.lstore 5, 2) := by decide +kernel
theorem dX2_rentOf_62 : decode cX2_rentOf 62 = .ok (.iload 8, 2) := by decide +kernel
theorem dX2_rentOf_64 : decode cX2_rentOf 64 = .ok (.istore 4, 2) := by decide +kernel
theorem dX2_rentOf_66 : decode cX2_rentOf 66 = .ok (.iinc 7 1, 3) := by decide +kernel
theorem dX2_rentOf_69 : decode cX2_rentOf 69 = .ok (.goto (-49), 3) := by decide +kernel
theorem dX2_rentOf_72 : decode cX2_rentOf 72 = .ok (.lload 5, 2) := by decide +kernel
theorem dX2_rentOf_74 : decode cX2_rentOf 74 = .ok (.ldc2_w 143, 3) := by decide +kernel
theorem dX2_rentOf_77 : decode cX2_rentOf 77 = .ok (.ldiv, 1) := by decide +kernel
theorem dX2_rentOf_78 : decode cX2_rentOf 78 = .ok (.lreturn, 1) := by decide +kernel
set_option maxRecDepth 100000 in
theorem t_Cn_rentOf_J72 (hC : CX z ad x cX2_rentOf RX2 9 (some .long)) (hR : x.2.2.1 = rmk 8 0 0) (τ : XS) (a5 : Int64) : AT z x 9 (wX z σ) rJ (eqA ad) 0 0 0 0 ad 72 [(5, .long a5)] [] τ (Cn_rentOf_J72 τ a5) := by
  unfold Cn_rentOf_J72
  refine at_lload (j := 0) hC rfl dX2_rentOf_72 ?_
  refine at_ldc2 hC kl_X2_143 dX2_rentOf_74 ?_
  refine at_ldiv hC (by decide) dX2_rentOf_77 ?_
  exact at_lret (F := eqA ad) (ra := rJ) hC dX2_rentOf_78 rfl (Nat.le_refl 0) (Nat.le_refl 0) rfl
set_option maxRecDepth 100000 in
theorem t_Cn_rentOf_L20 (hC : CX z ad x cX2_rentOf RX2 9 (some .long)) (hR : x.2.2.1 = rmk 8 0 0) (n : Nat) (τ : XS) (a1 : Int32) (a3 : Int32) (a4 : Int32) (a5 : Int64) (a7 : Int32) : AT z x 9 (wX z σ) rJ (eqA ad) 0 0 0 0 ad 20 [(0, .ref 76), (1, .int a1), (3, .int a3), (4, .int a4), (5, .long a5), (7, .int a7)] [] τ (Cn_rentOf_L20 n τ a1 a3 a4 a5 a7) := by
  revert τ a1 a3 a4 a5 a7
  show ∀ (τ : XS) (a1 : Int32) (a3 : Int32) (a4 : Int32) (a5 : Int64) (a7 : Int32), AT z x 9 (wX z σ) rJ (eqA ad) 0 0 0 0 ad 20 [(0, .ref 76), (1, .int a1), (3, .int a3), (4, .int a4), (5, .long a5), (7, .int a7)] [] τ (Cn_rentOf_L20_r n τ a1 a3 a4 a5 a7)
  induction n with
  | zero => intro τ a1 a3 a4 a5 a7; exact at_none
  | succ n hk_20 =>
    intro τ a1 a3 a4 a5 a7
    unfold Cn_rentOf_L20_r
    refine at_iload (j := 5) hC rfl dX2_rentOf_20 ?_
    refine at_bipush hC bi_100 dX2_rentOf_22 ?_
    refine at_icmp_ge (tgt := 72) hC dX2_rentOf_24 rfl (fun _ => ?_) (fun _ => ?_)
    · refine at_drop (lv' := [(5, .long a5)]) [4] rfl ?_
      exact t_Cn_rentOf_J72 hC hR τ a5
    · refine at_iload (j := 3) hC rfl dX2_rentOf_27 ?_
      refine at_iload_n (j := 2) hC rfl rfl dX2_rentOf_29 ?_
      refine at_icmp_ge (tgt := 72) hC dX2_rentOf_30 rfl (fun _ => ?_) (fun _ => ?_)
      · refine at_drop (lv' := [(5, .long a5)]) [4] rfl ?_
        exact t_Cn_rentOf_J72 hC hR τ a5
      · refine at_aload_n (j := 0) hC rfl rfl dX2_rentOf_33 ?_
        refine at_iload_n (j := 1) hC rfl rfl dX2_rentOf_34 ?_
        refine at_iload (j := 3) hC rfl dX2_rentOf_35 ?_
        refine at_iload_n (j := 2) hC rfl rfl dX2_rentOf_37 ?_
        refine at_callVpI hC hR lk_X2_168 (c_Cn_nextChange τ a1 a4 a3) dX2_rentOf_38 recX2 rfl rfl ⟨by decide, by decide⟩ (Nat.le_of_ble_eq_true rfl) ⟨Nat.le_refl 0, Nat.le_refl 0⟩ (fun r1 _ => ?_)
        refine at_istore (lv' := [(8, .int r1), (0, .ref 76), (1, .int a1), (3, .int a3), (4, .int a4), (5, .long a5), (7, .int a7)]) hC dX2_rentOf_41 (by decide) rfl ?_
        refine at_lload (j := 5) hC rfl dX2_rentOf_43 ?_
        refine at_aload_n (j := 1) hC rfl rfl dX2_rentOf_45 ?_
        refine at_iload_n (j := 2) hC rfl rfl dX2_rentOf_46 ?_
        refine at_iload (j := 4) hC rfl dX2_rentOf_47 ?_
        refine at_callVJ hC hR lk_X2_171 (c_Cn_yearlyRent τ a1 a4) dX2_rentOf_49 recX2 rfl rfl ⟨by decide, by decide⟩ (Nat.le_of_ble_eq_true rfl) ⟨Nat.le_refl 0, Nat.le_refl 0⟩ (fun r2 r2s _ => ?_)
        refine at_iload (j := 0) hC rfl dX2_rentOf_52 ?_
        refine at_iload (j := 4) hC rfl dX2_rentOf_54 ?_
        refine at_isub hC dX2_rentOf_56 ?_
        refine at_i2l hC dX2_rentOf_57 ?_
        refine at_lmul hC dX2_rentOf_58 ?_
        refine at_ladd hC dX2_rentOf_59 ?_
        refine at_lstore (lv' := [(5, .long (a5 + (r2 * ((r1 - a4).toInt64)))), (8, .int r1), (0, .ref 76), (1, .int a1), (3, .int a3), (4, .int a4), (7, .int a7)]) hC dX2_rentOf_60 (by decide) rfl ?_
        refine at_iload (j := 1) hC rfl dX2_rentOf_62 ?_
        refine at_istore (lv' := [(4, .int r1), (5, .long (a5 + (r2 * ((r1 - a4).toInt64)))), (8, .int r1), (0, .ref 76), (1, .int a1), (3, .int a3), (7, .int a7)]) hC dX2_rentOf_64 (by decide) rfl ?_
        refine at_iinc (j := 6) (v := a7 + 1) (lv' := [(7, .int (a7 + 1)), (4, .int r1), (5, .long (a5 + (r2 * ((r1 - a4).toInt64)))), (8, .int r1), (0, .ref 76), (1, .int a1), (3, .int a3)]) hC dX2_rentOf_66 rfl rfl (by decide) rfl ?_
        refine at_goto (tgt := 20) hC dX2_rentOf_69 rfl ?_
        refine at_drop (lv' := [(0, .ref 76), (1, .int a1), (3, .int a3), (4, .int r1), (5, .long (a5 + (r2 * ((r1 - a4).toInt64)))), (7, .int (a7 + 1))]) [4, 5, 6, 1, 2, 0] rfl ?_
        exact hk_20 r2s a1 a3 r1 (a5 + (r2 * ((r1 - a4).toInt64))) (a7 + 1)
set_option maxRecDepth 100000 in
theorem c_Cn_rentOf (τ : XS) (p0 : Int32) (p1 : Int32) : Ct z (wX z σ) rJ eqA yX2_rentOf cX2_rentOf 9 (some .long) 8 0 0 [.ref 76, .int p0, .int p1] τ (Cn_rentOf τ p0 p1) := by
  refine Ct.of (by decide) (Nat.le_of_ble_eq_true rfl) (fun ad x hC hR _ => ?_)
  show AT z x 9 (wX z σ) rJ (eqA ad) 0 0 0 0 ad 0 [(0, .ref 76), (1, .int p0), (2, .int p1)] [] τ (Cn_rentOf τ p0 p1)
  unfold Cn_rentOf
  refine at_iload_n (j := 2) hC rfl rfl dX2_rentOf_0 ?_
  refine at_bipush hC bi_100 dX2_rentOf_1 ?_
  refine at_imul hC dX2_rentOf_3 ?_
  refine at_bipush hC bi_100 dX2_rentOf_4 ?_
  refine at_iadd hC dX2_rentOf_6 ?_
  refine at_istore_n (lv' := [(3, .int ((p1 * 100) + 100)), (0, .ref 76), (1, .int p0), (2, .int p1)]) hC rfl dX2_rentOf_7 (by decide) rfl ?_
  refine at_iload_n (j := 3) hC rfl rfl dX2_rentOf_8 ?_
  refine at_bipush hC bi_100 dX2_rentOf_9 ?_
  refine at_imul hC dX2_rentOf_11 ?_
  refine at_istore (lv' := [(4, .int (p1 * 100)), (3, .int ((p1 * 100) + 100)), (0, .ref 76), (1, .int p0), (2, .int p1)]) hC dX2_rentOf_12 (by decide) rfl ?_
  refine at_lconst hC lc_0 dX2_rentOf_14 ?_
  refine at_lstore (lv' := [(5, .long 0), (4, .int (p1 * 100)), (3, .int ((p1 * 100) + 100)), (0, .ref 76), (1, .int p0), (2, .int p1)]) hC dX2_rentOf_15 (by decide) rfl ?_
  refine at_iconst hC ic_0 dX2_rentOf_17 ?_
  refine at_istore (lv' := [(7, .int 0), (5, .long 0), (4, .int (p1 * 100)), (3, .int ((p1 * 100) + 100)), (0, .ref 76), (1, .int p0), (2, .int p1)]) hC dX2_rentOf_18 (by decide) rfl ?_
  refine at_drop (lv' := [(0, .ref 76), (1, .int p0), (3, .int ((p1 * 100) + 100)), (4, .int (p1 * 100)), (5, .long 0), (7, .int 0)]) [4, 5, 3, 2, 1, 0] rfl ?_
  exact t_Cn_rentOf_L20 hC hR 100000 τ p0 ((p1 * 100) + 100) (p1 * 100) 0 0
theorem dX2_sumLeft_0 : decode cX2_sumLeft 0 = .ok (.aload_n 0, 1) := by decide +kernel
theorem dX2_sumLeft_1 : decode cX2_sumLeft 1 = .ok (.getfield 9, 3) := by decide +kernel
theorem dX2_sumLeft_4 : decode cX2_sumLeft 4 = .ok (.iload_n 1, 1) := by decide +kernel
theorem dX2_sumLeft_5 : decode cX2_sumLeft 5 = .ok (.baload, 1) := by decide +kernel
theorem dX2_sumLeft_6 : decode cX2_sumLeft 6 = .ok (.ifCond .ne 5, 3) := by decide +kernel
theorem dX2_sumLeft_9 : decode cX2_sumLeft 9 = .ok (.lconst 0, 1) := by decide +kernel
theorem dX2_sumLeft_10 : decode cX2_sumLeft 10 = .ok (.lreturn, 1) := by decide +kernel
theorem dX2_sumLeft_11 : decode cX2_sumLeft 11 = .ok (.aload_n 0, 1) := by decide +kernel
theorem dX2_sumLeft_12 : decode cX2_sumLeft 12 = .ok (.getfield 19, 3) := by decide +kernel
theorem dX2_sumLeft_15 : decode cX2_sumLeft 15 = .ok (.getfield 59, 3) := by decide +kernel
theorem dX2_sumLeft_18 : decode cX2_sumLeft 18 = .ok (.iload_n 1, 1) := by decide +kernel
theorem dX2_sumLeft_19 : decode cX2_sumLeft 19 = .ok (.iaload, 1) := by decide +kernel
theorem dX2_sumLeft_20 : decode cX2_sumLeft 20 = .ok (.istore_n 2, 1) := by decide +kernel
theorem dX2_sumLeft_21 : decode cX2_sumLeft 21 = .ok (.iconst 0, 1) := by decide +kernel
theorem dX2_sumLeft_22 : decode cX2_sumLeft 22 = .ok (.istore_n 3, 1) := by decide +kernel
theorem dX2_sumLeft_23 : decode cX2_sumLeft 23 = .ok (.iload_n 3, 1) := by decide +kernel
theorem dX2_sumLeft_24 : decode cX2_sumLeft 24 = .ok (.aload_n 0, 1) := by decide +kernel
theorem dX2_sumLeft_25 : decode cX2_sumLeft 25 = .ok (.getfield 15, 3) := by decide +kernel
theorem dX2_sumLeft_28 : decode cX2_sumLeft 28 = .ok (.getfield 54, 3) := by decide +kernel
theorem dX2_sumLeft_31 : decode cX2_sumLeft 31 = .ok (.if_icmp .ge 21, 3) := by decide +kernel
theorem dX2_sumLeft_34 : decode cX2_sumLeft 34 = .ok (.aload_n 0, 1) := by decide +kernel
theorem dX2_sumLeft_35 : decode cX2_sumLeft 35 = .ok (.iload_n 3, 1) := by decide +kernel
theorem dX2_sumLeft_36 : decode cX2_sumLeft 36 = .ok (.iload_n 2, 1) := by decide +kernel
theorem dX2_sumLeft_37 : decode cX2_sumLeft 37 = .ok (.invokevirtual 96, 3) := by decide +kernel
theorem dX2_sumLeft_40 : decode cX2_sumLeft 40 = .ok (.iload_n 1, 1) := by decide +kernel
theorem dX2_sumLeft_41 : decode cX2_sumLeft 41 = .ok (.if_icmp .ne 5, 3) := by decide +kernel
theorem dX2_sumLeft_44 : decode cX2_sumLeft 44 = .ok (.lconst 0, 1) := by decide +kernel
theorem dX2_sumLeft_45 : decode cX2_sumLeft 45 = .ok (.lreturn, 1) := by decide +kernel
theorem dX2_sumLeft_46 : decode cX2_sumLeft 46 = .ok (.iinc 3 1, 3) := by decide +kernel
theorem dX2_sumLeft_49 : decode cX2_sumLeft 49 = .ok (.goto (-26), 3) := by decide +kernel
theorem dX2_sumLeft_52 : decode cX2_sumLeft 52 = .ok (.aload_n 0, 1) := by decide +kernel
theorem dX2_sumLeft_53 : decode cX2_sumLeft 53 = .ok (.iconst 2, 1) := by decide +kernel
theorem dX2_sumLeft_54 : decode cX2_sumLeft 54 = .ok (.iload_n 1, 1) := by decide +kernel
theorem dX2_sumLeft_55 : decode cX2_sumLeft 55 = .ok (.iload_n 2, 1) := by decide +kernel
theorem dX2_sumLeft_56 : decode cX2_sumLeft 56 = .ok (.iconst 1, 1) := by decide +kernel
theorem dX2_sumLeft_57 : decode cX2_sumLeft 57 = .ok (.isub, 1) := by decide +kernel
theorem dX2_sumLeft_58 : decode cX2_sumLeft 58 = .ok (.invokevirtual 67, 3) := by decide +kernel
theorem dX2_sumLeft_61 : decode cX2_sumLeft 61 = .ok (.i2l, 1) := by decide +kernel
theorem dX2_sumLeft_62 : decode cX2_sumLeft 62 = .ok (.lreturn, 1) := by decide +kernel
set_option maxRecDepth 100000 in
theorem t_Cn_sumLeft_L23 (hC : CX z ad x cX2_sumLeft RX2 4 (some .long)) (hR : x.2.2.1 = rmk 8 0 0) (n : Nat) (τ : XS) (a1 : Int32) (a2 : Int32) (a3 : Int32) : AT z x 4 (wX z σ) rJ (eqA ad) 0 0 0 0 ad 23 [(0, .ref 76), (1, .int a1), (2, .int a2), (3, .int a3)] [] τ (Cn_sumLeft_L23 n τ a1 a2 a3) := by
  revert τ a1 a2 a3
  show ∀ (τ : XS) (a1 : Int32) (a2 : Int32) (a3 : Int32), AT z x 4 (wX z σ) rJ (eqA ad) 0 0 0 0 ad 23 [(0, .ref 76), (1, .int a1), (2, .int a2), (3, .int a3)] [] τ (Cn_sumLeft_L23_r n τ a1 a2 a3)
  induction n with
  | zero => intro τ a1 a2 a3; exact at_none
  | succ n hk_23 =>
    intro τ a1 a2 a3
    unfold Cn_sumLeft_L23_r
    refine at_iload_n (j := 3) hC rfl rfl dX2_sumLeft_23 ?_
    refine at_aload_n (j := 0) hC rfl rfl dX2_sumLeft_24 ?_
    refine gf_X2_15 hC dX2_sumLeft_25 ?_
    refine gf_X2_54 hC dX2_sumLeft_28 ?_
    refine at_icmp_ge (tgt := 52) hC dX2_sumLeft_31 rfl (fun _ => ?_) (fun _ => ?_)
    · refine at_aload_n (j := 0) hC rfl rfl dX2_sumLeft_52 ?_
      refine at_iconst hC ic_2 dX2_sumLeft_53 ?_
      refine at_iload_n (j := 1) hC rfl rfl dX2_sumLeft_54 ?_
      refine at_iload_n (j := 2) hC rfl rfl dX2_sumLeft_55 ?_
      refine at_iconst hC ic_1 dX2_sumLeft_56 ?_
      refine at_isub hC dX2_sumLeft_57 ?_
      refine at_callVI hC hR lk_X2_67 (c_Cn_comesTo τ 2 a1 (a2 - 1)) dX2_sumLeft_58 recX2 rfl rfl ⟨by decide, by decide⟩ (Nat.le_of_ble_eq_true rfl) ⟨Nat.le_refl 0, Nat.le_refl 0⟩ (fun r3 r3s _ => ?_)
      refine at_i2l hC dX2_sumLeft_61 ?_
      exact at_lret (F := eqA ad) (ra := rJ) hC dX2_sumLeft_62 rfl (Nat.le_refl 0) (Nat.le_refl 0) rfl
    · refine at_aload_n (j := 0) hC rfl rfl dX2_sumLeft_34 ?_
      refine at_iload_n (j := 3) hC rfl rfl dX2_sumLeft_35 ?_
      refine at_iload_n (j := 2) hC rfl rfl dX2_sumLeft_36 ?_
      refine at_callVpI hC hR lk_X2_96 (c_Cn_deadHusband τ a3 a2) dX2_sumLeft_37 recX2 rfl rfl ⟨by decide, by decide⟩ (Nat.le_of_ble_eq_true rfl) ⟨Nat.le_refl 0, Nat.le_refl 0⟩ (fun r4 _ => ?_)
      refine at_iload_n (j := 1) hC rfl rfl dX2_sumLeft_40 ?_
      refine at_icmp_ne (tgt := 46) hC dX2_sumLeft_41 rfl (fun _ => ?_) (fun _ => ?_)
      · refine at_iinc (j := 3) (v := a3 + 1) (lv' := [(3, .int (a3 + 1)), (0, .ref 76), (1, .int a1), (2, .int a2)]) hC dX2_sumLeft_46 rfl rfl (by decide) rfl ?_
        refine at_goto (tgt := 23) hC dX2_sumLeft_49 rfl ?_
        refine at_drop (lv' := [(0, .ref 76), (1, .int a1), (2, .int a2), (3, .int (a3 + 1))]) [1, 2, 3, 0] rfl ?_
        exact hk_23 τ a1 a2 (a3 + 1)
      · refine at_lconst hC lc_0 dX2_sumLeft_44 ?_
        exact at_lret (F := eqA ad) (ra := rJ) hC dX2_sumLeft_45 rfl (Nat.le_refl 0) (Nat.le_refl 0) rfl
set_option maxRecDepth 100000 in
theorem c_Cn_sumLeft (τ : XS) (p0 : Int32) : Ct z (wX z σ) rJ eqA yX2_sumLeft cX2_sumLeft 4 (some .long) 8 0 0 [.ref 76, .int p0] τ (Cn_sumLeft τ p0) := by
  refine Ct.of (by decide) (Nat.le_of_ble_eq_true rfl) (fun ad x hC hR _ => ?_)
  show AT z x 4 (wX z σ) rJ (eqA ad) 0 0 0 0 ad 0 [(0, .ref 76), (1, .int p0)] [] τ (Cn_sumLeft τ p0)
  unfold Cn_sumLeft
  refine at_aload_n (j := 0) hC rfl rfl dX2_sumLeft_0 ?_
  refine gf_X2_9 hC dX2_sumLeft_1 ?_
  refine at_iload_n (j := 1) hC rfl rfl dX2_sumLeft_4 ?_
  refine at_zald hC 77 dX2_sumLeft_5 cl_77 (fun v1 => ?_)
  refine at_if_ne (tgt := 11) hC dX2_sumLeft_6 rfl (fun _ => ?_) (fun _ => ?_)
  · refine at_aload_n (j := 0) hC rfl rfl dX2_sumLeft_11 ?_
    refine gf_X2_19 hC dX2_sumLeft_12 ?_
    refine gf_X2_59 hC dX2_sumLeft_15 ?_
    refine at_iload_n (j := 1) hC rfl rfl dX2_sumLeft_18 ?_
    refine at_iald hC 50 dX2_sumLeft_19 cl_50 (fun v2 => ?_)
    refine at_istore_n (lv' := [(2, .int v2), (0, .ref 76), (1, .int p0)]) hC rfl dX2_sumLeft_20 (by decide) rfl ?_
    refine at_iconst hC ic_0 dX2_sumLeft_21 ?_
    refine at_istore_n (lv' := [(3, .int 0), (2, .int v2), (0, .ref 76), (1, .int p0)]) hC rfl dX2_sumLeft_22 (by decide) rfl ?_
    refine at_drop (lv' := [(0, .ref 76), (1, .int p0), (2, .int v2), (3, .int 0)]) [2, 3, 1, 0] rfl ?_
    exact t_Cn_sumLeft_L23 hC hR 100000 τ p0 v2 0
  · refine at_lconst hC lc_0 dX2_sumLeft_9 ?_
    exact at_lret (F := eqA ad) (ra := rJ) hC dX2_sumLeft_10 rfl (Nat.le_refl 0) (Nat.le_refl 0) rfl
theorem dX2_heirsBelow_0 : decode cX2_heirsBelow 0 = .ok (.aload_n 0, 1) := by decide +kernel
theorem dX2_heirsBelow_1 : decode cX2_heirsBelow 1 = .ok (.getfield 19, 3) := by decide +kernel
theorem dX2_heirsBelow_4 : decode cX2_heirsBelow 4 = .ok (.getfield 59, 3) := by decide +kernel
theorem dX2_heirsBelow_7 : decode cX2_heirsBelow 7 = .ok (.iload_n 1, 1) := by decide +kernel
theorem dX2_heirsBelow_8 : decode cX2_heirsBelow 8 = .ok (.iaload, 1) := by decide +kernel
theorem dX2_heirsBelow_9 : decode cX2_heirsBelow 9 = .ok (.istore_n 3, 1) := by decide +kernel
theorem dX2_heirsBelow_10 : decode cX2_heirsBelow 10 = .ok (.aload_n 0, 1) := by decide +kernel
theorem dX2_heirsBelow_11 : decode cX2_heirsBelow 11 = .ok (.bipush 7, 2) := by decide +kernel
theorem dX2_heirsBelow_13 : decode cX2_heirsBelow 13 = .ok (.iconst (-1), 1) := by decide +kernel
theorem dX2_heirsBelow_14 : decode cX2_heirsBelow 14 = .ok (.iload_n 3, 1) := by decide +kernel
theorem dX2_heirsBelow_15 : decode cX2_heirsBelow 15 = .ok (.invokevirtual 67, 3) := by decide +kernel
theorem dX2_heirsBelow_18 : decode cX2_heirsBelow 18 = .ok (.istore 4, 2) := by decide +kernel
theorem dX2_heirsBelow_20 : decode cX2_heirsBelow 20 = .ok (.iconst 0, 1) := by decide +kernel
theorem dX2_heirsBelow_21 : decode cX2_heirsBelow 21 = .ok (.istore 5, 2) := by decide +kernel
theorem dX2_heirsBelow_23 : decode cX2_heirsBelow 23 = .ok (.iconst 0, 1) := by decide +kernel
theorem dX2_heirsBelow_24 : decode cX2_heirsBelow 24 = .ok (.istore 6, 2) := by decide +kernel
theorem dX2_heirsBelow_26 : decode cX2_heirsBelow 26 = .ok (.iload 6, 2) := by decide +kernel
theorem dX2_heirsBelow_28 : decode cX2_heirsBelow 28 = .ok (.iload_n 2, 1) := by decide +kernel
theorem dX2_heirsBelow_29 : decode cX2_heirsBelow 29 = .ok (.if_icmp .ge 66, 3) := by decide +kernel
theorem dX2_heirsBelow_32 : decode cX2_heirsBelow 32 = .ok (.iload 6, 2) := by decide +kernel
theorem dX2_heirsBelow_34 : decode cX2_heirsBelow 34 = .ok (.aload_n 0, 1) := by decide +kernel
theorem dX2_heirsBelow_35 : decode cX2_heirsBelow 35 = .ok (.getfield 15, 3) := by decide +kernel
theorem dX2_heirsBelow_38 : decode cX2_heirsBelow 38 = .ok (.getfield 54, 3) := by decide +kernel
theorem dX2_heirsBelow_41 : decode cX2_heirsBelow 41 = .ok (.if_icmp .ge 54, 3) := by decide +kernel
theorem dX2_heirsBelow_44 : decode cX2_heirsBelow 44 = .ok (.aload_n 0, 1) := by decide +kernel
theorem dX2_heirsBelow_45 : decode cX2_heirsBelow 45 = .ok (.getfield 15, 3) := by decide +kernel
theorem dX2_heirsBelow_48 : decode cX2_heirsBelow 48 = .ok (.getfield 99, 3) := by decide +kernel
theorem dX2_heirsBelow_51 : decode cX2_heirsBelow 51 = .ok (.iload 6, 2) := by decide +kernel
theorem dX2_heirsBelow_53 : decode cX2_heirsBelow 53 = .ok (.iaload, 1) := by decide +kernel
theorem dX2_heirsBelow_54 : decode cX2_heirsBelow 54 = .ok (.iload_n 1, 1) := by decide +kernel
theorem dX2_heirsBelow_55 : decode cX2_heirsBelow 55 = .ok (.if_icmp .ne 34, 3) := by decide +kernel
theorem dX2_heirsBelow_58 : decode cX2_heirsBelow 58 = .ok (.aload_n 0, 1) := by decide +kernel
theorem dX2_heirsBelow_59 : decode cX2_heirsBelow 59 = .ok (.getfield 19, 3) := by decide +kernel
theorem dX2_heirsBelow_62 : decode cX2_heirsBelow 62 = .ok (.iload 6, 2) := by decide +kernel
theorem dX2_heirsBelow_64 : decode cX2_heirsBelow 64 = .ok (.iload_n 3, 1) := by decide +kernel
theorem dX2_heirsBelow_65 : decode cX2_heirsBelow 65 = .ok (.invokevirtual 86, 3) := by decide +kernel
theorem dX2_heirsBelow_68 : decode cX2_heirsBelow 68 = .ok (.ifCond .eq 21, 3) := by decide +kernel
theorem dX2_heirsBelow_71 : decode cX2_heirsBelow 71 = .ok (.aload_n 0, 1) := by decide +kernel
theorem dX2_heirsBelow_72 : decode cX2_heirsBelow 72 = .ok (.getfield 15, 3) := by decide +kernel
theorem dX2_heirsBelow_75 : decode cX2_heirsBelow 75 = .ok (.iload 6, 2) := by decide +kernel
theorem dX2_heirsBelow_77 : decode cX2_heirsBelow 77 = .ok (.iload_n 3, 1) := by decide +kernel
theorem dX2_heirsBelow_78 : decode cX2_heirsBelow 78 = .ok (.invokevirtual 102, 3) := by decide +kernel
theorem dX2_heirsBelow_81 : decode cX2_heirsBelow 81 = .ok (.iload 4, 2) := by decide +kernel
theorem dX2_heirsBelow_83 : decode cX2_heirsBelow 83 = .ok (.if_icmp .ge 6, 3) := by decide +kernel
theorem dX2_heirsBelow_86 : decode cX2_heirsBelow 86 = .ok (.iinc 5 1, 3) := by decide +kernel
theorem dX2_heirsBelow_89 : decode cX2_heirsBelow 89 = .ok (.iinc 6 1, 3) := by decide +kernel
theorem dX2_heirsBelow_92 : decode cX2_heirsBelow 92 = .ok (.goto (-66), 3) := by decide +kernel
theorem dX2_heirsBelow_95 : decode cX2_heirsBelow 95 = .ok (.iload 5, 2) := by decide +kernel
theorem dX2_heirsBelow_97 : decode cX2_heirsBelow 97 = .ok (.ireturn, 1) := by decide +kernel
set_option maxRecDepth 100000 in
theorem t_Cn_heirsBelow_J89 (hC : CX z ad x cX2_heirsBelow RX2 7 (some .int)) (hR : x.2.2.1 = rmk 8 0 0) (k_26 : XS → Int32 → Int32 → Int32 → Int32 → Int32 → Int32 → Option (Int32 × XS)) (hk_26 : ∀ (τ : XS) (a1 : Int32) (a2 : Int32) (a3 : Int32) (a4 : Int32) (a5 : Int32) (a6 : Int32), AT z x 7 (wX z σ) rI (eqA ad) 0 0 0 0 ad 26 [(0, .ref 76), (1, .int a1), (2, .int a2), (3, .int a3), (4, .int a4), (5, .int a5), (6, .int a6)] [] τ (k_26 τ a1 a2 a3 a4 a5 a6)) (τ : XS) (a1 : Int32) (a2 : Int32) (a3 : Int32) (a4 : Int32) (a5 : Int32) (a6 : Int32) : AT z x 7 (wX z σ) rI (eqA ad) 0 0 0 0 ad 89 [(0, .ref 76), (1, .int a1), (2, .int a2), (3, .int a3), (4, .int a4), (5, .int a5), (6, .int a6)] [] τ (Cn_heirsBelow_J89 k_26 τ a1 a2 a3 a4 a5 a6) := by
  unfold Cn_heirsBelow_J89
  refine at_iinc (j := 6) (v := a6 + 1) (lv' := [(6, .int (a6 + 1)), (0, .ref 76), (1, .int a1), (2, .int a2), (3, .int a3), (4, .int a4), (5, .int a5)]) hC dX2_heirsBelow_89 rfl rfl (by decide) rfl ?_
  refine at_goto (tgt := 26) hC dX2_heirsBelow_92 rfl ?_
  refine at_drop (lv' := [(0, .ref 76), (1, .int a1), (2, .int a2), (3, .int a3), (4, .int a4), (5, .int a5), (6, .int (a6 + 1))]) [1, 2, 3, 4, 5, 6, 0] rfl ?_
  exact hk_26 τ a1 a2 a3 a4 a5 (a6 + 1)
set_option maxRecDepth 100000 in
theorem t_Cn_heirsBelow_L26 (hC : CX z ad x cX2_heirsBelow RX2 7 (some .int)) (hR : x.2.2.1 = rmk 8 0 0) (n : Nat) (τ : XS) (a1 : Int32) (a2 : Int32) (a3 : Int32) (a4 : Int32) (a5 : Int32) (a6 : Int32) : AT z x 7 (wX z σ) rI (eqA ad) 0 0 0 0 ad 26 [(0, .ref 76), (1, .int a1), (2, .int a2), (3, .int a3), (4, .int a4), (5, .int a5), (6, .int a6)] [] τ (Cn_heirsBelow_L26 n τ a1 a2 a3 a4 a5 a6) := by
  revert τ a1 a2 a3 a4 a5 a6
  show ∀ (τ : XS) (a1 : Int32) (a2 : Int32) (a3 : Int32) (a4 : Int32) (a5 : Int32) (a6 : Int32), AT z x 7 (wX z σ) rI (eqA ad) 0 0 0 0 ad 26 [(0, .ref 76), (1, .int a1), (2, .int a2), (3, .int a3), (4, .int a4), (5, .int a5), (6, .int a6)] [] τ (Cn_heirsBelow_L26_r n τ a1 a2 a3 a4 a5 a6)
  induction n with
  | zero => intro τ a1 a2 a3 a4 a5 a6; exact at_none
  | succ n hk_26 =>
    intro τ a1 a2 a3 a4 a5 a6
    unfold Cn_heirsBelow_L26_r
    refine at_iload (j := 6) hC rfl dX2_heirsBelow_26 ?_
    refine at_iload_n (j := 2) hC rfl rfl dX2_heirsBelow_28 ?_
    refine at_icmp_ge (tgt := 95) hC dX2_heirsBelow_29 rfl (fun _ => ?_) (fun _ => ?_)
    · refine at_iload (j := 5) hC rfl dX2_heirsBelow_95 ?_
      exact at_iret (F := eqA ad) (ra := rI) hC dX2_heirsBelow_97 rfl (Nat.le_refl 0) (Nat.le_refl 0) rfl
    · refine at_iload (j := 6) hC rfl dX2_heirsBelow_32 ?_
      refine at_aload_n (j := 0) hC rfl rfl dX2_heirsBelow_34 ?_
      refine gf_X2_15 hC dX2_heirsBelow_35 ?_
      refine gf_X2_54 hC dX2_heirsBelow_38 ?_
      refine at_icmp_ge (tgt := 95) hC dX2_heirsBelow_41 rfl (fun _ => ?_) (fun _ => ?_)
      · refine at_iload (j := 5) hC rfl dX2_heirsBelow_95 ?_
        exact at_iret (F := eqA ad) (ra := rI) hC dX2_heirsBelow_97 rfl (Nat.le_refl 0) (Nat.le_refl 0) rfl
      · refine at_aload_n (j := 0) hC rfl rfl dX2_heirsBelow_44 ?_
        refine gf_X2_15 hC dX2_heirsBelow_45 ?_
        refine gf_X2_99 hC dX2_heirsBelow_48 ?_
        refine at_iload (j := 6) hC rfl dX2_heirsBelow_51 ?_
        refine at_iald hC 40 dX2_heirsBelow_53 cl_40 (fun v3 => ?_)
        refine at_iload_n (j := 1) hC rfl rfl dX2_heirsBelow_54 ?_
        refine at_icmp_ne (tgt := 89) hC dX2_heirsBelow_55 rfl (fun _ => ?_) (fun _ => ?_)
        · exact t_Cn_heirsBelow_J89 hC hR (Cn_heirsBelow_L26_r n) hk_26 τ a1 a2 a3 a4 a5 a6
        · refine at_aload_n (j := 0) hC rfl rfl dX2_heirsBelow_58 ?_
          refine gf_X2_19 hC dX2_heirsBelow_59 ?_
          refine at_iload (j := 6) hC rfl dX2_heirsBelow_62 ?_
          refine at_iload_n (j := 3) hC rfl rfl dX2_heirsBelow_64 ?_
          refine at_callVpI hC hR lk_X2_86 (c_Lv_livesOn τ a6 a3) dX2_heirsBelow_65 recX4 rfl rfl ⟨by decide, by decide⟩ (Nat.le_of_ble_eq_true rfl) ⟨Nat.le_refl 0, Nat.le_refl 0⟩ (fun r4 _ => ?_)
          refine at_if_eq (tgt := 89) hC dX2_heirsBelow_68 rfl (fun _ => ?_) (fun _ => ?_)
          · exact t_Cn_heirsBelow_J89 hC hR (Cn_heirsBelow_L26_r n) hk_26 τ a1 a2 a3 a4 a5 a6
          · refine at_aload_n (j := 0) hC rfl rfl dX2_heirsBelow_71 ?_
            refine gf_X2_15 hC dX2_heirsBelow_72 ?_
            refine at_iload (j := 6) hC rfl dX2_heirsBelow_75 ?_
            refine at_iload_n (j := 3) hC rfl rfl dX2_heirsBelow_77 ?_
            refine at_callVpI hC hR lk_X2_102 (c_Bk_ageOn τ a6 a3) dX2_heirsBelow_78 recX1 rfl rfl ⟨by decide, by decide⟩ (Nat.le_of_ble_eq_true rfl) ⟨Nat.le_refl 0, Nat.le_refl 0⟩ (fun r5 _ => ?_)
            refine at_iload (j := 4) hC rfl dX2_heirsBelow_81 ?_
            refine at_icmp_ge (tgt := 89) hC dX2_heirsBelow_83 rfl (fun _ => ?_) (fun _ => ?_)
            · exact t_Cn_heirsBelow_J89 hC hR (Cn_heirsBelow_L26_r n) hk_26 τ a1 a2 a3 a4 a5 a6
            · refine at_iinc (j := 5) (v := a5 + 1) (lv' := [(5, .int (a5 + 1)), (0, .ref 76), (1, .int a1), (2, .int a2), (3, .int a3), (4, .int a4), (6, .int a6)]) hC dX2_heirsBelow_86 rfl rfl (by decide) rfl ?_
              refine at_drop (lv' := [(0, .ref 76), (1, .int a1), (2, .int a2), (3, .int a3), (4, .int a4), (5, .int (a5 + 1)), (6, .int a6)]) [1, 2, 3, 4, 5, 0, 6] rfl ?_
              exact t_Cn_heirsBelow_J89 hC hR (Cn_heirsBelow_L26_r n) hk_26 τ a1 a2 a3 a4 (a5 + 1) a6
set_option maxRecDepth 100000 in
theorem c_Cn_heirsBelow (τ : XS) (p0 : Int32) (p1 : Int32) : Ct z (wX z σ) rI eqA yX2_heirsBelow cX2_heirsBelow 7 (some .int) 8 0 0 [.ref 76, .int p0, .int p1] τ (Cn_heirsBelow τ p0 p1) := by
  refine Ct.of (by decide) (Nat.le_of_ble_eq_true rfl) (fun ad x hC hR _ => ?_)
  show AT z x 7 (wX z σ) rI (eqA ad) 0 0 0 0 ad 0 [(0, .ref 76), (1, .int p0), (2, .int p1)] [] τ (Cn_heirsBelow τ p0 p1)
  unfold Cn_heirsBelow
  refine at_aload_n (j := 0) hC rfl rfl dX2_heirsBelow_0 ?_
  refine gf_X2_19 hC dX2_heirsBelow_1 ?_
  refine gf_X2_59 hC dX2_heirsBelow_4 ?_
  refine at_iload_n (j := 1) hC rfl rfl dX2_heirsBelow_7 ?_
  refine at_iald hC 50 dX2_heirsBelow_8 cl_50 (fun v1 => ?_)
  refine at_istore_n (lv' := [(3, .int v1), (0, .ref 76), (1, .int p0), (2, .int p1)]) hC rfl dX2_heirsBelow_9 (by decide) rfl ?_
  refine at_aload_n (j := 1) hC rfl rfl dX2_heirsBelow_10 ?_
  refine at_bipush hC bi_7 dX2_heirsBelow_11 ?_
  refine at_iconst hC ic_m1 dX2_heirsBelow_13 ?_
  refine at_iload_n (j := 0) hC rfl rfl dX2_heirsBelow_14 ?_
  refine at_callVI hC hR lk_X2_67 (c_Cn_comesTo τ 7 (-1) v1) dX2_heirsBelow_15 recX2 rfl rfl ⟨by decide, by decide⟩ (Nat.le_of_ble_eq_true rfl) ⟨Nat.le_refl 0, Nat.le_refl 0⟩ (fun r2 r2s _ => ?_)
  refine at_istore (lv' := [(4, .int r2), (3, .int v1), (0, .ref 76), (1, .int p0), (2, .int p1)]) hC dX2_heirsBelow_18 (by decide) rfl ?_
  refine at_iconst hC ic_0 dX2_heirsBelow_20 ?_
  refine at_istore (lv' := [(5, .int 0), (4, .int r2), (3, .int v1), (0, .ref 76), (1, .int p0), (2, .int p1)]) hC dX2_heirsBelow_21 (by decide) rfl ?_
  refine at_iconst hC ic_0 dX2_heirsBelow_23 ?_
  refine at_istore (lv' := [(6, .int 0), (5, .int 0), (4, .int r2), (3, .int v1), (0, .ref 76), (1, .int p0), (2, .int p1)]) hC dX2_heirsBelow_24 (by decide) rfl ?_
  refine at_drop (lv' := [(0, .ref 76), (1, .int p0), (2, .int p1), (3, .int v1), (4, .int r2), (5, .int 0), (6, .int 0)]) [4, 5, 6, 3, 2, 1, 0] rfl ?_
  exact t_Cn_heirsBelow_L26 hC hR 100000 r2s p0 p1 v1 r2 0 0
theorem dX2_sumOf_0 : decode cX2_sumOf 0 = .ok (.aload_n 0, 1) := by decide +kernel
theorem dX2_sumOf_1 : decode cX2_sumOf 1 = .ok (.getfield 15, 3) := by decide +kernel
theorem dX2_sumOf_4 : decode cX2_sumOf 4 = .ok (.getfield 99, 3) := by decide +kernel
theorem dX2_sumOf_7 : decode cX2_sumOf 7 = .ok (.iload_n 1, 1) := by decide +kernel
theorem dX2_sumOf_8 : decode cX2_sumOf 8 = .ok (.iaload, 1) := by decide +kernel
theorem dX2_sumOf_9 : decode cX2_sumOf 9 = .ok (.istore_n 3, 1) := by decide +kernel
theorem dX2_sumOf_10 : decode cX2_sumOf 10 = .ok (.iload_n 3, 1) := by decide +kernel
theorem dX2_sumOf_11 : decode cX2_sumOf 11 = .ok (.ifCond .lt 19, 3) := by decide +kernel
theorem dX2_sumOf_14 : decode cX2_sumOf 14 = .ok (.aload_n 0, 1) := by decide +kernel
theorem dX2_sumOf_15 : decode cX2_sumOf 15 = .ok (.getfield 19, 3) := by decide +kernel
theorem dX2_sumOf_18 : decode cX2_sumOf 18 = .ok (.getfield 59, 3) := by decide +kernel
theorem dX2_sumOf_21 : decode cX2_sumOf 21 = .ok (.iload_n 3, 1) := by decide +kernel
theorem dX2_sumOf_22 : decode cX2_sumOf 22 = .ok (.iaload, 1) := by decide +kernel
theorem dX2_sumOf_23 : decode cX2_sumOf 23 = .ok (.bipush 100, 2) := by decide +kernel
theorem dX2_sumOf_25 : decode cX2_sumOf 25 = .ok (.idiv, 1) := by decide +kernel
theorem dX2_sumOf_26 : decode cX2_sumOf 26 = .ok (.iload_n 2, 1) := by decide +kernel
theorem dX2_sumOf_27 : decode cX2_sumOf 27 = .ok (.if_icmp .eq 5, 3) := by decide +kernel
theorem dX2_sumOf_30 : decode cX2_sumOf 30 = .ok (.lconst 0, 1) := by decide +kernel
theorem dX2_sumOf_31 : decode cX2_sumOf 31 = .ok (.lreturn, 1) := by decide +kernel
theorem dX2_sumOf_32 : decode cX2_sumOf 32 = .ok (.aload_n 0, 1) := by decide +kernel
theorem dX2_sumOf_33 : decode cX2_sumOf 33 = .ok (.iload_n 3, 1) := by decide +kernel
theorem dX2_sumOf_34 : decode cX2_sumOf 34 = .ok (.iload_n 1, 1) := by decide +kernel
theorem dX2_sumOf_35 : decode cX2_sumOf 35 = .ok (.invokevirtual 180, 3) := by decide +kernel
theorem dX2_sumOf_38 : decode cX2_sumOf 38 = .ok (.istore 4, 2) := by decide +kernel
theorem dX2_sumOf_40 : decode cX2_sumOf 40 = .ok (.aload_n 0, 1) := by decide +kernel
theorem dX2_sumOf_41 : decode cX2_sumOf 41 = .ok (.iload_n 3, 1) := by decide +kernel
theorem dX2_sumOf_42 : decode cX2_sumOf 42 = .ok (.iload_n 1, 1) := by decide +kernel
theorem dX2_sumOf_43 : decode cX2_sumOf 43 = .ok (.iconst 1, 1) := by decide +kernel
theorem dX2_sumOf_44 : decode cX2_sumOf 44 = .ok (.iadd, 1) := by decide +kernel
theorem dX2_sumOf_45 : decode cX2_sumOf 45 = .ok (.invokevirtual 180, 3) := by decide +kernel
theorem dX2_sumOf_48 : decode cX2_sumOf 48 = .ok (.iload 4, 2) := by decide +kernel
theorem dX2_sumOf_50 : decode cX2_sumOf 50 = .ok (.if_icmp .ne 5, 3) := by decide +kernel
theorem dX2_sumOf_53 : decode cX2_sumOf 53 = .ok (.lconst 0, 1) := by decide +kernel
theorem dX2_sumOf_54 : decode cX2_sumOf 54 = .ok (.lreturn, 1) := by decide +kernel
theorem dX2_sumOf_55 : decode cX2_sumOf 55 = .ok (.aload_n 0, 1) := by decide +kernel
theorem dX2_sumOf_56 : decode cX2_sumOf 56 = .ok (.iload_n 3, 1) := by decide +kernel
theorem dX2_sumOf_57 : decode cX2_sumOf 57 = .ok (.aload_n 0, 1) := by decide +kernel
theorem dX2_sumOf_58 : decode cX2_sumOf 58 = .ok (.getfield 15, 3) := by decide +kernel
theorem dX2_sumOf_61 : decode cX2_sumOf 61 = .ok (.getfield 54, 3) := by decide +kernel
theorem dX2_sumOf_64 : decode cX2_sumOf 64 = .ok (.invokevirtual 180, 3) := by decide +kernel
theorem dX2_sumOf_67 : decode cX2_sumOf 67 = .ok (.istore 5, 2) := by decide +kernel
theorem dX2_sumOf_69 : decode cX2_sumOf 69 = .ok (.iload 5, 2) := by decide +kernel
theorem dX2_sumOf_71 : decode cX2_sumOf 71 = .ok (.iconst 1, 1) := by decide +kernel
theorem dX2_sumOf_72 : decode cX2_sumOf 72 = .ok (.if_icmp .ge 5, 3) := by decide +kernel
theorem dX2_sumOf_75 : decode cX2_sumOf 75 = .ok (.lconst 0, 1) := by decide +kernel
theorem dX2_sumOf_76 : decode cX2_sumOf 76 = .ok (.lreturn, 1) := by decide +kernel
theorem dX2_sumOf_77 : decode cX2_sumOf 77 = .ok (.aload_n 0, 1) := by decide +kernel
theorem dX2_sumOf_78 : decode cX2_sumOf 78 = .ok (.iload_n 3, 1) := by decide +kernel
theorem dX2_sumOf_79 : decode cX2_sumOf 79 = .ok (.invokevirtual 183, 3) := by decide +kernel
theorem dX2_sumOf_82 : decode cX2_sumOf 82 = .ok (.lstore 6, 2) := by decide +kernel
theorem dX2_sumOf_84 : decode cX2_sumOf 84 = .ok (.lload 6, 2) := by decide +kernel
theorem dX2_sumOf_86 : decode cX2_sumOf 86 = .ok (.iload 5, 2) := by decide +kernel
theorem dX2_sumOf_88 : decode cX2_sumOf 88 = .ok (.i2l, 1) := by decide +kernel
theorem dX2_sumOf_89 : decode cX2_sumOf 89 = .ok (.ldiv, 1) := by decide +kernel
theorem dX2_sumOf_90 : decode cX2_sumOf 90 = .ok (.iload 4, 2) := by decide +kernel
theorem dX2_sumOf_92 : decode cX2_sumOf 92 = .ok (.i2l, 1) := by decide +kernel
theorem dX2_sumOf_93 : decode cX2_sumOf 93 = .ok (.lload 6, 2) := by decide +kernel
theorem dX2_sumOf_95 : decode cX2_sumOf 95 = .ok (.iload 5, 2) := by decide +kernel
theorem dX2_sumOf_97 : decode cX2_sumOf 97 = .ok (.i2l, 1) := by decide +kernel
theorem dX2_sumOf_98 : decode cX2_sumOf 98 = .ok (.lrem, 1) := by decide +kernel
theorem dX2_sumOf_99 : decode cX2_sumOf 99 = .ok (.lcmp, 1) := by decide +kernel
theorem dX2_sumOf_100 : decode cX2_sumOf 100 = .ok (.ifCond .ge 7, 3) := by decide +kernel
theorem dX2_sumOf_103 : decode cX2_sumOf 103 = .ok (.iconst 1, 1) := by decide +kernel
theorem dX2_sumOf_104 : decode cX2_sumOf 104 = .ok (.goto 4, 3) := by decide +kernel
theorem dX2_sumOf_107 : decode cX2_sumOf 107 = .ok (.iconst 0, 1) := by decide +kernel
theorem dX2_sumOf_108 : decode cX2_sumOf 108 = .ok (.i2l, 1) := by decide +kernel
theorem dX2_sumOf_109 : decode cX2_sumOf 109 = .ok (.ladd, 1) := by decide +kernel
theorem dX2_sumOf_110 : decode cX2_sumOf 110 = .ok (.lreturn, 1) := by decide +kernel
set_option maxRecDepth 100000 in
theorem t_Cn_sumOf_J108 (hC : CX z ad x cX2_sumOf RX2 8 (some .long)) (hR : x.2.2.1 = rmk 9 0 0) (τ : XS) (s0 : Int32) (s1 : Int64) : AT z x 8 (wX z σ) rJ (eqA ad) 0 0 0 0 ad 108 [] [.int s0, .long s1] τ (Cn_sumOf_J108 τ s0 s1) := by
  unfold Cn_sumOf_J108
  refine at_i2l hC dX2_sumOf_108 ?_
  refine at_ladd hC dX2_sumOf_109 ?_
  exact at_lret (F := eqA ad) (ra := rJ) hC dX2_sumOf_110 rfl (Nat.le_refl 0) (Nat.le_refl 0) rfl
set_option maxRecDepth 100000 in
theorem c_Cn_sumOf (τ : XS) (p0 : Int32) (p1 : Int32) : Ct z (wX z σ) rJ eqA yX2_sumOf cX2_sumOf 8 (some .long) 9 0 0 [.ref 76, .int p0, .int p1] τ (Cn_sumOf τ p0 p1) := by
  refine Ct.of (by decide) (Nat.le_of_ble_eq_true rfl) (fun ad x hC hR _ => ?_)
  show AT z x 8 (wX z σ) rJ (eqA ad) 0 0 0 0 ad 0 [(0, .ref 76), (1, .int p0), (2, .int p1)] [] τ (Cn_sumOf τ p0 p1)
  unfold Cn_sumOf
  refine at_aload_n (j := 0) hC rfl rfl dX2_sumOf_0 ?_
  refine gf_X2_15 hC dX2_sumOf_1 ?_
  refine gf_X2_99 hC dX2_sumOf_4 ?_
  refine at_iload_n (j := 1) hC rfl rfl dX2_sumOf_7 ?_
  refine at_iald hC 40 dX2_sumOf_8 cl_40 (fun v1 => ?_)
  refine at_istore_n (lv' := [(3, .int v1), (0, .ref 76), (1, .int p0), (2, .int p1)]) hC rfl dX2_sumOf_9 (by decide) rfl ?_
  refine at_iload_n (j := 0) hC rfl rfl dX2_sumOf_10 ?_
  refine at_if_lt (tgt := 30) hC dX2_sumOf_11 rfl (fun _ => ?_) (fun _ => ?_)
  · refine at_lconst hC lc_0 dX2_sumOf_30 ?_
    exact at_lret (F := eqA ad) (ra := rJ) hC dX2_sumOf_31 rfl (Nat.le_refl 0) (Nat.le_refl 0) rfl
  · refine at_aload_n (j := 1) hC rfl rfl dX2_sumOf_14 ?_
    refine gf_X2_19 hC dX2_sumOf_15 ?_
    refine gf_X2_59 hC dX2_sumOf_18 ?_
    refine at_iload_n (j := 0) hC rfl rfl dX2_sumOf_21 ?_
    refine at_iald hC 50 dX2_sumOf_22 cl_50 (fun v2 => ?_)
    refine at_bipush hC bi_100 dX2_sumOf_23 ?_
    refine at_idiv hC (by decide) dX2_sumOf_25 ?_
    refine at_iload_n (j := 3) hC rfl rfl dX2_sumOf_26 ?_
    refine at_icmp_eq (tgt := 32) hC dX2_sumOf_27 rfl (fun _ => ?_) (fun _ => ?_)
    · refine at_aload_n (j := 1) hC rfl rfl dX2_sumOf_32 ?_
      refine at_iload_n (j := 0) hC rfl rfl dX2_sumOf_33 ?_
      refine at_iload_n (j := 2) hC rfl rfl dX2_sumOf_34 ?_
      refine at_callVI hC hR lk_X2_180 (c_Cn_heirsBelow τ v1 p0) dX2_sumOf_35 recX2 rfl rfl ⟨by decide, by decide⟩ (Nat.le_of_ble_eq_true rfl) ⟨Nat.le_refl 0, Nat.le_refl 0⟩ (fun r3 r3s _ => ?_)
      refine at_istore (lv' := [(4, .int r3), (3, .int v1), (0, .ref 76), (1, .int p0), (2, .int p1)]) hC dX2_sumOf_38 (by decide) rfl ?_
      refine at_aload_n (j := 2) hC rfl rfl dX2_sumOf_40 ?_
      refine at_iload_n (j := 1) hC rfl rfl dX2_sumOf_41 ?_
      refine at_iload_n (j := 3) hC rfl rfl dX2_sumOf_42 ?_
      refine at_iconst hC ic_1 dX2_sumOf_43 ?_
      refine at_iadd hC dX2_sumOf_44 ?_
      refine at_callVI hC hR lk_X2_180 (c_Cn_heirsBelow r3s v1 (p0 + 1)) dX2_sumOf_45 recX2 rfl rfl ⟨by decide, by decide⟩ (Nat.le_of_ble_eq_true rfl) ⟨Nat.le_refl 0, Nat.le_refl 0⟩ (fun r4 r4s _ => ?_)
      refine at_iload (j := 0) hC rfl dX2_sumOf_48 ?_
      refine at_icmp_ne (tgt := 55) hC dX2_sumOf_50 rfl (fun _ => ?_) (fun _ => ?_)
      · refine at_aload_n (j := 2) hC rfl rfl dX2_sumOf_55 ?_
        refine at_iload_n (j := 1) hC rfl rfl dX2_sumOf_56 ?_
        refine at_aload_n (j := 2) hC rfl rfl dX2_sumOf_57 ?_
        refine gf_X2_15 hC dX2_sumOf_58 ?_
        refine gf_X2_54 hC dX2_sumOf_61 ?_
        refine at_callVI hC hR lk_X2_180 (c_Cn_heirsBelow r4s v1 (r4s.1 104)) dX2_sumOf_64 recX2 rfl rfl ⟨by decide, by decide⟩ (Nat.le_of_ble_eq_true rfl) ⟨Nat.le_refl 0, Nat.le_refl 0⟩ (fun r5 r5s _ => ?_)
        refine at_istore (lv' := [(5, .int r5), (4, .int r3), (3, .int v1), (0, .ref 76), (1, .int p0), (2, .int p1)]) hC dX2_sumOf_67 (by decide) rfl ?_
        refine at_iload (j := 0) hC rfl dX2_sumOf_69 ?_
        refine at_iconst hC ic_1 dX2_sumOf_71 ?_
        refine at_icmp_ge (tgt := 77) hC dX2_sumOf_72 rfl (fun _ => ?_) (fun _ => ?_)
        · refine at_aload_n (j := 3) hC rfl rfl dX2_sumOf_77 ?_
          refine at_iload_n (j := 2) hC rfl rfl dX2_sumOf_78 ?_
          refine at_callVJ hC hR lk_X2_183 (c_Cn_sumLeft r5s v1) dX2_sumOf_79 recX2 rfl rfl ⟨by decide, by decide⟩ (Nat.le_of_ble_eq_true rfl) ⟨Nat.le_refl 0, Nat.le_refl 0⟩ (fun r6 r6s _ => ?_)
          refine at_lstore (lv' := [(6, .long r6), (5, .int r5), (4, .int r3), (3, .int v1), (0, .ref 76), (1, .int p0), (2, .int p1)]) hC dX2_sumOf_82 (by decide) rfl ?_
          refine at_lload (j := 0) hC rfl dX2_sumOf_84 ?_
          refine at_iload (j := 1) hC rfl dX2_sumOf_86 ?_
          refine at_i2l hC dX2_sumOf_88 ?_
          refine at_nzl (fun hne => ?_)
          refine at_ldiv hC hne dX2_sumOf_89 ?_
          refine at_iload (j := 2) hC rfl dX2_sumOf_90 ?_
          refine at_i2l hC dX2_sumOf_92 ?_
          refine at_lload (j := 0) hC rfl dX2_sumOf_93 ?_
          refine at_iload (j := 1) hC rfl dX2_sumOf_95 ?_
          refine at_i2l hC dX2_sumOf_97 ?_
          refine at_nzl (fun hne => ?_)
          refine at_lrem hC hne dX2_sumOf_98 ?_
          refine at_lcmp hC dX2_sumOf_99 ?_
          refine at_if_ge (tgt := 107) hC dX2_sumOf_100 rfl (fun _ => ?_) (fun _ => ?_)
          · refine at_iconst hC ic_0 dX2_sumOf_107 ?_
            refine at_drop (lv' := []) [] rfl ?_
            exact t_Cn_sumOf_J108 hC hR r6s 0 (r6 / r5.toInt64)
          · refine at_iconst hC ic_1 dX2_sumOf_103 ?_
            refine at_goto (tgt := 108) hC dX2_sumOf_104 rfl ?_
            refine at_drop (lv' := []) [] rfl ?_
            exact t_Cn_sumOf_J108 hC hR r6s 1 (r6 / r5.toInt64)
        · refine at_lconst hC lc_0 dX2_sumOf_75 ?_
          exact at_lret (F := eqA ad) (ra := rJ) hC dX2_sumOf_76 rfl (Nat.le_refl 0) (Nat.le_refl 0) rfl
      · refine at_lconst hC lc_0 dX2_sumOf_53 ?_
        exact at_lret (F := eqA ad) (ra := rJ) hC dX2_sumOf_54 rfl (Nat.le_refl 0) (Nat.le_refl 0) rfl
    · refine at_lconst hC lc_0 dX2_sumOf_30 ?_
      exact at_lret (F := eqA ad) (ra := rJ) hC dX2_sumOf_31 rfl (Nat.le_refl 0) (Nat.le_refl 0) rfl
theorem dX5_comesOf_0 : decode cX5_comesOf 0 = .ok (.iload_n 2, 1) := by decide +kernel
theorem dX5_comesOf_1 : decode cX5_comesOf 1 = .ok (.aload_n 0, 1) := by decide +kernel
theorem dX5_comesOf_2 : decode cX5_comesOf 2 = .ok (.getfield 15, 3) := by decide +kernel
theorem dX5_comesOf_5 : decode cX5_comesOf 5 = .ok (.iload_n 1, 1) := by decide +kernel
theorem dX5_comesOf_6 : decode cX5_comesOf 6 = .ok (.iaload, 1) := by decide +kernel
theorem dX5_comesOf_7 : decode cX5_comesOf 7 = .ok (.isub, 1) := by decide +kernel
theorem dX5_comesOf_8 : decode cX5_comesOf 8 = .ok (.istore_n 3, 1) := by decide +kernel
theorem dX5_comesOf_9 : decode cX5_comesOf 9 = .ok (.iload_n 3, 1) := by decide +kernel
theorem dX5_comesOf_10 : decode cX5_comesOf 10 = .ok (.ifCond .ne 12, 3) := by decide +kernel
theorem dX5_comesOf_13 : decode cX5_comesOf 13 = .ok (.aload_n 0, 1) := by decide +kernel
theorem dX5_comesOf_14 : decode cX5_comesOf 14 = .ok (.getfield 9, 3) := by decide +kernel
theorem dX5_comesOf_17 : decode cX5_comesOf 17 = .ok (.iload_n 1, 1) := by decide +kernel
theorem dX5_comesOf_18 : decode cX5_comesOf 18 = .ok (.iaload, 1) := by decide +kernel
theorem dX5_comesOf_19 : decode cX5_comesOf 19 = .ok (.ineg, 1) := by decide +kernel
theorem dX5_comesOf_20 : decode cX5_comesOf 20 = .ok (.i2l, 1) := by decide +kernel
theorem dX5_comesOf_21 : decode cX5_comesOf 21 = .ok (.lreturn, 1) := by decide +kernel
theorem dX5_comesOf_22 : decode cX5_comesOf 22 = .ok (.iload_n 3, 1) := by decide +kernel
theorem dX5_comesOf_23 : decode cX5_comesOf 23 = .ok (.ifCond .lt 23, 3) := by decide +kernel
theorem dX5_comesOf_26 : decode cX5_comesOf 26 = .ok (.iload_n 3, 1) := by decide +kernel
theorem dX5_comesOf_27 : decode cX5_comesOf 27 = .ok (.aload_n 0, 1) := by decide +kernel
theorem dX5_comesOf_28 : decode cX5_comesOf 28 = .ok (.getfield 18, 3) := by decide +kernel
theorem dX5_comesOf_31 : decode cX5_comesOf 31 = .ok (.iload_n 1, 1) := by decide +kernel
theorem dX5_comesOf_32 : decode cX5_comesOf 32 = .ok (.iaload, 1) := by decide +kernel
theorem dX5_comesOf_33 : decode cX5_comesOf 33 = .ok (.if_icmp .gt 13, 3) := by decide +kernel
theorem dX5_comesOf_36 : decode cX5_comesOf 36 = .ok (.iload_n 2, 1) := by decide +kernel
theorem dX5_comesOf_37 : decode cX5_comesOf 37 = .ok (.aload_n 0, 1) := by decide +kernel
theorem dX5_comesOf_38 : decode cX5_comesOf 38 = .ok (.getfield 24, 3) := by decide +kernel
theorem dX5_comesOf_41 : decode cX5_comesOf 41 = .ok (.iload_n 1, 1) := by decide +kernel
theorem dX5_comesOf_42 : decode cX5_comesOf 42 = .ok (.iaload, 1) := by decide +kernel
theorem dX5_comesOf_43 : decode cX5_comesOf 43 = .ok (.if_icmp .lt 5, 3) := by decide +kernel
theorem dX5_comesOf_46 : decode cX5_comesOf 46 = .ok (.lconst 0, 1) := by decide +kernel
theorem dX5_comesOf_47 : decode cX5_comesOf 47 = .ok (.lreturn, 1) := by decide +kernel
theorem dX5_comesOf_48 : decode cX5_comesOf 48 = .ok (.aload_n 0, 1) := by decide +kernel
theorem dX5_comesOf_49 : decode cX5_comesOf 49 = .ok (.getfield 9, 3) := by decide +kernel
theorem dX5_comesOf_52 : decode cX5_comesOf 52 = .ok (.iload_n 1, 1) := by decide +kernel
theorem dX5_comesOf_53 : decode cX5_comesOf 53 = .ok (.iaload, 1) := by decide +kernel
theorem dX5_comesOf_54 : decode cX5_comesOf 54 = .ok (.aload_n 0, 1) := by decide +kernel
theorem dX5_comesOf_55 : decode cX5_comesOf 55 = .ok (.getfield 21, 3) := by decide +kernel
theorem dX5_comesOf_58 : decode cX5_comesOf 58 = .ok (.iload_n 1, 1) := by decide +kernel
theorem dX5_comesOf_59 : decode cX5_comesOf 59 = .ok (.iaload, 1) := by decide +kernel
theorem dX5_comesOf_60 : decode cX5_comesOf 60 = .ok (.imul, 1) := by decide +kernel
theorem dX5_comesOf_61 : decode cX5_comesOf 61 = .ok (.bipush 100, 2) := by decide +kernel
theorem dX5_comesOf_63 : decode cX5_comesOf 63 = .ok (.idiv, 1) := by decide +kernel
theorem dX5_comesOf_64 : decode cX5_comesOf 64 = .ok (.i2l, 1) := by decide +kernel
theorem dX5_comesOf_65 : decode cX5_comesOf 65 = .ok (.lstore 4, 2) := by decide +kernel
theorem dX5_comesOf_67 : decode cX5_comesOf 67 = .ok (.iload_n 3, 1) := by decide +kernel
theorem dX5_comesOf_68 : decode cX5_comesOf 68 = .ok (.aload_n 0, 1) := by decide +kernel
theorem dX5_comesOf_69 : decode cX5_comesOf 69 = .ok (.getfield 18, 3) := by decide +kernel
theorem dX5_comesOf_72 : decode cX5_comesOf 72 = .ok (.iload_n 1, 1) := by decide +kernel
theorem dX5_comesOf_73 : decode cX5_comesOf 73 = .ok (.iaload, 1) := by decide +kernel
theorem dX5_comesOf_74 : decode cX5_comesOf 74 = .ok (.if_icmp .ne 16, 3) := by decide +kernel
theorem dX5_comesOf_77 : decode cX5_comesOf 77 = .ok (.lload 4, 2) := by decide +kernel
theorem dX5_comesOf_79 : decode cX5_comesOf 79 = .ok (.aload_n 0, 1) := by decide +kernel
theorem dX5_comesOf_80 : decode cX5_comesOf 80 = .ok (.getfield 9, 3) := by decide +kernel
theorem dX5_comesOf_83 : decode cX5_comesOf 83 = .ok (.iload_n 1, 1) := by decide +kernel
theorem dX5_comesOf_84 : decode cX5_comesOf 84 = .ok (.iaload, 1) := by decide +kernel
theorem dX5_comesOf_85 : decode cX5_comesOf 85 = .ok (.i2l, 1) := by decide +kernel
theorem dX5_comesOf_86 : decode cX5_comesOf 86 = .ok (.ladd, 1) := by decide +kernel
theorem dX5_comesOf_87 : decode cX5_comesOf 87 = .ok (.goto 5, 3) := by decide +kernel
theorem dX5_comesOf_90 : decode cX5_comesOf 90 = .ok (.lload 4, 2) := by decide +kernel
theorem dX5_comesOf_92 : decode cX5_comesOf 92 = .ok (.lreturn, 1) := by decide +kernel
set_option maxRecDepth 100000 in
theorem c_Ln_comesOf (τ : XS) (p0 : Int32) (p1 : Int32) : Ct z (wX z σ) rJ eqA yX5_comesOf cX5_comesOf 6 (some .long) 1 0 0 [.ref 62, .int p0, .int p1] τ ((Ln_comesOf τ p0 p1).map fun r => (r, τ)) := by
  refine Ct.of (by decide) (Nat.le_of_ble_eq_true rfl) (fun ad x hC hR _ => ?_)
  show AT z x 6 (wX z σ) rJ (eqA ad) 0 0 0 0 ad 0 [(0, .ref 62), (1, .int p0), (2, .int p1)] [] τ ((Ln_comesOf τ p0 p1).map fun r => (r, τ))
  unfold Ln_comesOf
  refine at_iload_n (j := 2) hC rfl rfl dX5_comesOf_0 ?_
  refine at_aload_n (j := 0) hC rfl rfl dX5_comesOf_1 ?_
  refine gf_X5_15 hC dX5_comesOf_2 ?_
  refine at_iload_n (j := 1) hC rfl rfl dX5_comesOf_5 ?_
  refine ap_iald hC 64 dX5_comesOf_6 cl_64 (fun v1 => ?_)
  refine at_isub hC dX5_comesOf_7 ?_
  refine at_istore_n (lv' := [(3, .int (p1 - v1)), (0, .ref 62), (1, .int p0), (2, .int p1)]) hC rfl dX5_comesOf_8 (by decide) rfl ?_
  refine at_iload_n (j := 0) hC rfl rfl dX5_comesOf_9 ?_
  refine ap_if_ne (tgt := 22) hC dX5_comesOf_10 rfl (fun _ => ?_) (fun _ => ?_)
  · refine at_iload_n (j := 0) hC rfl rfl dX5_comesOf_22 ?_
    refine ap_if_lt (tgt := 46) hC dX5_comesOf_23 rfl (fun _ => ?_) (fun _ => ?_)
    · refine at_lconst hC lc_0 dX5_comesOf_46 ?_
      exact at_lret (F := eqA ad) (ra := rJ) hC dX5_comesOf_47 rfl (Nat.le_refl 0) (Nat.le_refl 0) rfl
    · refine at_iload_n (j := 0) hC rfl rfl dX5_comesOf_26 ?_
      refine at_aload_n (j := 1) hC rfl rfl dX5_comesOf_27 ?_
      refine gf_X5_18 hC dX5_comesOf_28 ?_
      refine at_iload_n (j := 2) hC rfl rfl dX5_comesOf_31 ?_
      refine ap_iald hC 65 dX5_comesOf_32 cl_65 (fun v2 => ?_)
      refine ap_icmp_gt (tgt := 46) hC dX5_comesOf_33 rfl (fun _ => ?_) (fun _ => ?_)
      · refine at_lconst hC lc_0 dX5_comesOf_46 ?_
        exact at_lret (F := eqA ad) (ra := rJ) hC dX5_comesOf_47 rfl (Nat.le_refl 0) (Nat.le_refl 0) rfl
      · refine at_iload_n (j := 3) hC rfl rfl dX5_comesOf_36 ?_
        refine at_aload_n (j := 1) hC rfl rfl dX5_comesOf_37 ?_
        refine gf_X5_24 hC dX5_comesOf_38 ?_
        refine at_iload_n (j := 2) hC rfl rfl dX5_comesOf_41 ?_
        refine ap_iald hC 67 dX5_comesOf_42 cl_67 (fun v3 => ?_)
        refine ap_icmp_lt (tgt := 48) hC dX5_comesOf_43 rfl (fun _ => ?_) (fun _ => ?_)
        · refine at_aload_n (j := 1) hC rfl rfl dX5_comesOf_48 ?_
          refine gf_X5_9 hC dX5_comesOf_49 ?_
          refine at_iload_n (j := 2) hC rfl rfl dX5_comesOf_52 ?_
          refine ap_iald hC 63 dX5_comesOf_53 cl_63 (fun v4 => ?_)
          refine at_aload_n (j := 1) hC rfl rfl dX5_comesOf_54 ?_
          refine gf_X5_21 hC dX5_comesOf_55 ?_
          refine at_iload_n (j := 2) hC rfl rfl dX5_comesOf_58 ?_
          refine ap_iald hC 66 dX5_comesOf_59 cl_66 (fun v5 => ?_)
          refine at_imul hC dX5_comesOf_60 ?_
          refine at_bipush hC bi_100 dX5_comesOf_61 ?_
          refine at_idiv hC (by decide) dX5_comesOf_63 ?_
          refine at_i2l hC dX5_comesOf_64 ?_
          refine at_lstore (lv' := [(4, .long (((v4 * v5) / 100).toInt64)), (3, .int (p1 - v1)), (0, .ref 62), (1, .int p0), (2, .int p1)]) hC dX5_comesOf_65 (by decide) rfl ?_
          refine at_iload_n (j := 1) hC rfl rfl dX5_comesOf_67 ?_
          refine at_aload_n (j := 2) hC rfl rfl dX5_comesOf_68 ?_
          refine gf_X5_18 hC dX5_comesOf_69 ?_
          refine at_iload_n (j := 3) hC rfl rfl dX5_comesOf_72 ?_
          refine ap_iald hC 65 dX5_comesOf_73 cl_65 (fun v6 => ?_)
          refine ap_icmp_ne (tgt := 90) hC dX5_comesOf_74 rfl (fun _ => ?_) (fun _ => ?_)
          · refine at_lload (j := 0) hC rfl dX5_comesOf_90 ?_
            exact at_lret (F := eqA ad) (ra := rJ) hC dX5_comesOf_92 rfl (Nat.le_refl 0) (Nat.le_refl 0) rfl
          · refine at_lload (j := 0) hC rfl dX5_comesOf_77 ?_
            refine at_aload_n (j := 2) hC rfl rfl dX5_comesOf_79 ?_
            refine gf_X5_9 hC dX5_comesOf_80 ?_
            refine at_iload_n (j := 3) hC rfl rfl dX5_comesOf_83 ?_
            refine ap_iald hC 63 dX5_comesOf_84 cl_63 (fun v7 => ?_)
            refine at_i2l hC dX5_comesOf_85 ?_
            refine at_ladd hC dX5_comesOf_86 ?_
            refine at_goto (tgt := 92) hC dX5_comesOf_87 rfl ?_
            exact at_lret (F := eqA ad) (ra := rJ) hC dX5_comesOf_92 rfl (Nat.le_refl 0) (Nat.le_refl 0) rfl
        · refine at_lconst hC lc_0 dX5_comesOf_46 ?_
          exact at_lret (F := eqA ad) (ra := rJ) hC dX5_comesOf_47 rfl (Nat.le_refl 0) (Nat.le_refl 0) rfl
  · refine at_aload_n (j := 1) hC rfl rfl dX5_comesOf_13 ?_
    refine gf_X5_9 hC dX5_comesOf_14 ?_
    refine at_iload_n (j := 2) hC rfl rfl dX5_comesOf_17 ?_
    refine ap_iald hC 63 dX5_comesOf_18 cl_63 (fun v8 => ?_)
    refine at_ineg hC dX5_comesOf_19 ?_
    refine at_i2l hC dX5_comesOf_20 ?_
    exact at_lret (F := eqA ad) (ra := rJ) hC dX5_comesOf_21 rfl (Nat.le_refl 0) (Nat.le_refl 0) rfl
end G
