section G
variable {z : ZZ} {x : XX} {ad : Nat → Nat} {σ : MS}
theorem dX9_stepped_0 : decode cX9_stepped 0 = .ok (.iload_n 1, 1) := by decide +kernel
theorem dX9_stepped_1 : decode cX9_stepped 1 = .ok (.ifCond .ne 5, 3) := by decide +kernel
theorem dX9_stepped_4 : decode cX9_stepped 4 = .ok (.iload_n 3, 1) := by decide +kernel
theorem dX9_stepped_5 : decode cX9_stepped 5 = .ok (.ireturn, 1) := by decide +kernel
theorem dX9_stepped_6 : decode cX9_stepped 6 = .ok (.iconst 0, 1) := by decide +kernel
theorem dX9_stepped_7 : decode cX9_stepped 7 = .ok (.istore 4, 2) := by decide +kernel
theorem dX9_stepped_9 : decode cX9_stepped 9 = .ok (.iload 4, 2) := by decide +kernel
theorem dX9_stepped_11 : decode cX9_stepped 11 = .ok (.aload_n 0, 1) := by decide +kernel
theorem dX9_stepped_12 : decode cX9_stepped 12 = .ok (.getfield 31, 3) := by decide +kernel
theorem dX9_stepped_15 : decode cX9_stepped 15 = .ok (.if_icmp .ge 42, 3) := by decide +kernel
theorem dX9_stepped_18 : decode cX9_stepped 18 = .ok (.iload_n 1, 1) := by decide +kernel
theorem dX9_stepped_19 : decode cX9_stepped 19 = .ok (.iload 4, 2) := by decide +kernel
theorem dX9_stepped_21 : decode cX9_stepped 21 = .ok (.ishr, 1) := by decide +kernel
theorem dX9_stepped_22 : decode cX9_stepped 22 = .ok (.iconst 1, 1) := by decide +kernel
theorem dX9_stepped_23 : decode cX9_stepped 23 = .ok (.iand, 1) := by decide +kernel
theorem dX9_stepped_24 : decode cX9_stepped 24 = .ok (.ifCond .eq 27, 3) := by decide +kernel
theorem dX9_stepped_27 : decode cX9_stepped 27 = .ok (.aload_n 0, 1) := by decide +kernel
theorem dX9_stepped_28 : decode cX9_stepped 28 = .ok (.getfield 21, 3) := by decide +kernel
theorem dX9_stepped_31 : decode cX9_stepped 31 = .ok (.iload 4, 2) := by decide +kernel
theorem dX9_stepped_33 : decode cX9_stepped 33 = .ok (.iaload, 1) := by decide +kernel
theorem dX9_stepped_34 : decode cX9_stepped 34 = .ok (.iload_n 2, 1) := by decide +kernel
theorem dX9_stepped_35 : decode cX9_stepped 35 = .ok (.if_icmp .ne 16, 3) := by decide +kernel
theorem dX9_stepped_38 : decode cX9_stepped 38 = .ok (.iload_n 3, 1) := by decide +kernel
theorem dX9_stepped_39 : decode cX9_stepped 39 = .ok (.aload_n 0, 1) := by decide +kernel
theorem dX9_stepped_40 : decode cX9_stepped 40 = .ok (.getfield 24, 3) := by decide +kernel
theorem dX9_stepped_43 : decode cX9_stepped 43 = .ok (.iload 4, 2) := by decide +kernel
theorem dX9_stepped_45 : decode cX9_stepped 45 = .ok (.iaload, 1) := by decide +kernel
theorem dX9_stepped_46 : decode cX9_stepped 46 = .ok (.imul, 1) := by decide +kernel
theorem dX9_stepped_47 : decode cX9_stepped 47 = .ok (.bipush 100, 2) := by decide +kernel
theorem dX9_stepped_49 : decode cX9_stepped 49 = .ok (.idiv, 1) := by decide +kernel
theorem dX9_stepped_50 : decode cX9_stepped 50 = .ok (.ireturn, 1) := by decide +kernel
theorem dX9_stepped_51 : decode cX9_stepped 51 = .ok (.iinc 4 1, 3) := by decide +kernel
theorem dX9_stepped_54 : decode cX9_stepped 54 = .ok (.goto (-45), 3) := by decide +kernel
theorem dX9_stepped_57 : decode cX9_stepped 57 = .ok (.iload_n 3, 1) := by decide +kernel
theorem dX9_stepped_58 : decode cX9_stepped 58 = .ok (.ireturn, 1) := by decide +kernel
set_option maxRecDepth 100000 in
theorem t_Tr_stepped_J51 (hC : CX z ad x cX9_stepped RX9 5 (some .int)) (hR : x.2.2.1 = rmk 1 0 0) (τ : XS) (k_9 : Int32 → Int32 → Int32 → Int32 → Option Int32) (hk_9 : ∀ (a1 : Int32) (a2 : Int32) (a3 : Int32) (a4 : Int32), AT z x 5 (wX z σ) rI (eqA ad) 0 0 0 0 ad 9 [(0, .ref 70), (1, .int a1), (2, .int a2), (3, .int a3), (4, .int a4)] [] τ ((k_9 a1 a2 a3 a4).map fun r => (r, τ))) (a1 : Int32) (a2 : Int32) (a3 : Int32) (a4 : Int32) : AT z x 5 (wX z σ) rI (eqA ad) 0 0 0 0 ad 51 [(0, .ref 70), (1, .int a1), (2, .int a2), (3, .int a3), (4, .int a4)] [] τ ((Tr_stepped_J51 k_9 τ a1 a2 a3 a4).map fun r => (r, τ)) := by
  unfold Tr_stepped_J51
  refine at_iinc (j := 4) (v := a4 + 1) (lv' := [(4, .int (a4 + 1)), (0, .ref 70), (1, .int a1), (2, .int a2), (3, .int a3)]) hC dX9_stepped_51 rfl rfl (by decide) rfl ?_
  refine at_goto (tgt := 9) hC dX9_stepped_54 rfl ?_
  refine at_drop (lv' := [(0, .ref 70), (1, .int a1), (2, .int a2), (3, .int a3), (4, .int (a4 + 1))]) [1, 2, 3, 4, 0] rfl ?_
  exact hk_9 a1 a2 a3 (a4 + 1)
set_option maxRecDepth 100000 in
theorem t_Tr_stepped_L9 (hC : CX z ad x cX9_stepped RX9 5 (some .int)) (hR : x.2.2.1 = rmk 1 0 0) (τ : XS) (n : Nat) (a1 : Int32) (a2 : Int32) (a3 : Int32) (a4 : Int32) : AT z x 5 (wX z σ) rI (eqA ad) 0 0 0 0 ad 9 [(0, .ref 70), (1, .int a1), (2, .int a2), (3, .int a3), (4, .int a4)] [] τ ((Tr_stepped_L9 n τ a1 a2 a3 a4).map fun r => (r, τ)) := by
  revert a1 a2 a3 a4
  show ∀ (a1 : Int32) (a2 : Int32) (a3 : Int32) (a4 : Int32), AT z x 5 (wX z σ) rI (eqA ad) 0 0 0 0 ad 9 [(0, .ref 70), (1, .int a1), (2, .int a2), (3, .int a3), (4, .int a4)] [] τ ((Tr_stepped_L9_r τ n a1 a2 a3 a4).map fun r => (r, τ))
  induction n with
  | zero => intro a1 a2 a3 a4; exact ap_none
  | succ n hk_9 =>
    intro a1 a2 a3 a4
    unfold Tr_stepped_L9_r
    refine at_iload (j := 4) hC rfl dX9_stepped_9 ?_
    refine at_aload_n (j := 0) hC rfl rfl dX9_stepped_11 ?_
    refine gf_X9_31 hC dX9_stepped_12 ?_
    refine ap_icmp_ge (tgt := 57) hC dX9_stepped_15 rfl (fun _ => ?_) (fun _ => ?_)
    · refine at_iload_n (j := 3) hC rfl rfl dX9_stepped_57 ?_
      exact at_iret (F := eqA ad) (ra := rI) hC dX9_stepped_58 rfl (Nat.le_refl 0) (Nat.le_refl 0) rfl
    · refine at_iload_n (j := 1) hC rfl rfl dX9_stepped_18 ?_
      refine at_iload (j := 4) hC rfl dX9_stepped_19 ?_
      refine at_ishr hC dX9_stepped_21 ?_
      refine at_iconst hC ic_1 dX9_stepped_22 ?_
      refine at_iand hC dX9_stepped_23 ?_
      refine ap_if_eq (tgt := 51) hC dX9_stepped_24 rfl (fun _ => ?_) (fun _ => ?_)
      · exact t_Tr_stepped_J51 hC hR τ (Tr_stepped_L9_r τ n) hk_9 a1 a2 a3 a4
      · refine at_aload_n (j := 0) hC rfl rfl dX9_stepped_27 ?_
        refine gf_X9_21 hC dX9_stepped_28 ?_
        refine at_iload (j := 4) hC rfl dX9_stepped_31 ?_
        refine ap_iald hC 74 dX9_stepped_33 cl_74 (fun v1 => ?_)
        refine at_iload_n (j := 2) hC rfl rfl dX9_stepped_34 ?_
        refine ap_icmp_ne (tgt := 51) hC dX9_stepped_35 rfl (fun _ => ?_) (fun _ => ?_)
        · exact t_Tr_stepped_J51 hC hR τ (Tr_stepped_L9_r τ n) hk_9 a1 a2 a3 a4
        · refine at_iload_n (j := 3) hC rfl rfl dX9_stepped_38 ?_
          refine at_aload_n (j := 0) hC rfl rfl dX9_stepped_39 ?_
          refine gf_X9_24 hC dX9_stepped_40 ?_
          refine at_iload (j := 4) hC rfl dX9_stepped_43 ?_
          refine ap_iald hC 75 dX9_stepped_45 cl_75 (fun v2 => ?_)
          refine at_imul hC dX9_stepped_46 ?_
          refine at_bipush hC bi_100 dX9_stepped_47 ?_
          refine at_idiv hC (by decide) dX9_stepped_49 ?_
          exact at_iret (F := eqA ad) (ra := rI) hC dX9_stepped_50 rfl (Nat.le_refl 0) (Nat.le_refl 0) rfl
set_option maxRecDepth 100000 in
theorem c_Tr_stepped (τ : XS) (p0 : Int32) (p1 : Int32) (p2 : Int32) : Ct z (wX z σ) rI eqA yX9_stepped cX9_stepped 5 (some .int) 1 0 0 [.ref 70, .int p0, .int p1, .int p2] τ ((Tr_stepped τ p0 p1 p2).map fun r => (r, τ)) := by
  refine Ct.of (by decide) (Nat.le_of_ble_eq_true rfl) (fun ad x hC hR _ => ?_)
  show AT z x 5 (wX z σ) rI (eqA ad) 0 0 0 0 ad 0 [(0, .ref 70), (1, .int p0), (2, .int p1), (3, .int p2)] [] τ ((Tr_stepped τ p0 p1 p2).map fun r => (r, τ))
  unfold Tr_stepped
  refine at_iload_n (j := 1) hC rfl rfl dX9_stepped_0 ?_
  refine ap_if_ne (tgt := 6) hC dX9_stepped_1 rfl (fun _ => ?_) (fun _ => ?_)
  · refine at_iconst hC ic_0 dX9_stepped_6 ?_
    refine at_istore (lv' := [(4, .int 0), (0, .ref 70), (1, .int p0), (2, .int p1), (3, .int p2)]) hC dX9_stepped_7 (by decide) rfl ?_
    refine at_drop (lv' := [(0, .ref 70), (1, .int p0), (2, .int p1), (3, .int p2), (4, .int 0)]) [1, 2, 3, 4, 0] rfl ?_
    exact t_Tr_stepped_L9 hC hR τ 100000 p0 p1 p2 0
  · refine at_iload_n (j := 3) hC rfl rfl dX9_stepped_4 ?_
    exact at_iret (F := eqA ad) (ra := rI) hC dX9_stepped_5 rfl (Nat.le_refl 0) (Nat.le_refl 0) rfl
theorem dX2_comesTo_0 : decode cX2_comesTo 0 = .ok (.aload_n 0, 1) := by decide +kernel
theorem dX2_comesTo_1 : decode cX2_comesTo 1 = .ok (.getfield 23, 3) := by decide +kernel
theorem dX2_comesTo_4 : decode cX2_comesTo 4 = .ok (.aload_n 0, 1) := by decide +kernel
theorem dX2_comesTo_5 : decode cX2_comesTo 5 = .ok (.getfield 19, 3) := by decide +kernel
theorem dX2_comesTo_8 : decode cX2_comesTo 8 = .ok (.iload_n 2, 1) := by decide +kernel
theorem dX2_comesTo_9 : decode cX2_comesTo 9 = .ok (.iload_n 3, 1) := by decide +kernel
theorem dX2_comesTo_10 : decode cX2_comesTo 10 = .ok (.invokevirtual 71, 3) := by decide +kernel
theorem dX2_comesTo_13 : decode cX2_comesTo 13 = .ok (.aload_n 0, 1) := by decide +kernel
theorem dX2_comesTo_14 : decode cX2_comesTo 14 = .ok (.getfield 31, 3) := by decide +kernel
theorem dX2_comesTo_17 : decode cX2_comesTo 17 = .ok (.aload_n 0, 1) := by decide +kernel
theorem dX2_comesTo_18 : decode cX2_comesTo 18 = .ok (.getfield 77, 3) := by decide +kernel
theorem dX2_comesTo_21 : decode cX2_comesTo 21 = .ok (.iload_n 1, 1) := by decide +kernel
theorem dX2_comesTo_22 : decode cX2_comesTo 22 = .ok (.aload_n 0, 1) := by decide +kernel
theorem dX2_comesTo_23 : decode cX2_comesTo 23 = .ok (.getfield 23, 3) := by decide +kernel
theorem dX2_comesTo_26 : decode cX2_comesTo 26 = .ok (.iload_n 1, 1) := by decide +kernel
theorem dX2_comesTo_27 : decode cX2_comesTo 27 = .ok (.iload_n 3, 1) := by decide +kernel
theorem dX2_comesTo_28 : decode cX2_comesTo 28 = .ok (.invokevirtual 80, 3) := by decide +kernel
theorem dX2_comesTo_31 : decode cX2_comesTo 31 = .ok (.invokevirtual 83, 3) := by decide +kernel
theorem dX2_comesTo_34 : decode cX2_comesTo 34 = .ok (.ireturn, 1) := by decide +kernel
set_option maxRecDepth 100000 in
theorem c_Cn_comesTo (τ : XS) (p0 : Int32) (p1 : Int32) (p2 : Int32) : Ct z (wX z σ) rI eqA yX2_comesTo cX2_comesTo 4 (some .int) 7 0 0 [.ref 76, .int p0, .int p1, .int p2] τ (Cn_comesTo τ p0 p1 p2) := by
  refine Ct.of (by decide) (Nat.le_of_ble_eq_true rfl) (fun ad x hC hR _ => ?_)
  show AT z x 4 (wX z σ) rI (eqA ad) 0 0 0 0 ad 0 [(0, .ref 76), (1, .int p0), (2, .int p1), (3, .int p2)] [] τ (Cn_comesTo τ p0 p1 p2)
  unfold Cn_comesTo
  refine at_aload_n (j := 0) hC rfl rfl dX2_comesTo_0 ?_
  refine gf_X2_23 hC dX2_comesTo_1 ?_
  refine at_aload_n (j := 0) hC rfl rfl dX2_comesTo_4 ?_
  refine gf_X2_19 hC dX2_comesTo_5 ?_
  refine at_iload_n (j := 2) hC rfl rfl dX2_comesTo_8 ?_
  refine at_iload_n (j := 3) hC rfl rfl dX2_comesTo_9 ?_
  refine at_callVU hC hR lk_X2_71 (c_Lw_nameFor τ p1 p2) dX2_comesTo_10 recX3 rfl rfl ⟨by decide, by decide⟩ (Nat.le_of_ble_eq_true rfl) ⟨Nat.le_refl 0, Nat.le_refl 0⟩ (fun r1 r1s _ => ?_)
  refine at_aload_n (j := 0) hC rfl rfl dX2_comesTo_13 ?_
  refine gf_X2_31 hC dX2_comesTo_14 ?_
  refine at_aload_n (j := 0) hC rfl rfl dX2_comesTo_17 ?_
  refine gf_X2_77 hC dX2_comesTo_18 ?_
  refine at_iload_n (j := 1) hC rfl rfl dX2_comesTo_21 ?_
  refine at_aload_n (j := 0) hC rfl rfl dX2_comesTo_22 ?_
  refine gf_X2_23 hC dX2_comesTo_23 ?_
  refine at_iload_n (j := 1) hC rfl rfl dX2_comesTo_26 ?_
  refine at_iload_n (j := 3) hC rfl rfl dX2_comesTo_27 ?_
  refine at_callVI hC hR lk_X2_80 (c_Lw_ruling r1s p0 p2) dX2_comesTo_28 recX3 rfl rfl ⟨by decide, by decide⟩ (Nat.le_of_ble_eq_true rfl) ⟨Nat.le_refl 0, Nat.le_refl 0⟩ (fun r2 r2s _ => ?_)
  refine at_callVpI hC hR lk_X2_83 (c_Tr_stepped r2s (r1s.1 207) p0 r2) dX2_comesTo_31 recX9 rfl rfl ⟨by decide, by decide⟩ (Nat.le_of_ble_eq_true rfl) ⟨Nat.le_refl 0, Nat.le_refl 0⟩ (fun r3 _ => ?_)
  exact at_iret (F := eqA ad) (ra := rI) hC dX2_comesTo_34 rfl (Nat.le_refl 0) (Nat.le_refl 0) rfl
theorem dX2_markKept_0 : decode cX2_markKept 0 = .ok (.iconst 0, 1) := by decide +kernel
theorem dX2_markKept_1 : decode cX2_markKept 1 = .ok (.istore_n 1, 1) := by decide +kernel
theorem dX2_markKept_2 : decode cX2_markKept 2 = .ok (.iload_n 1, 1) := by decide +kernel
theorem dX2_markKept_3 : decode cX2_markKept 3 = .ok (.aload_n 0, 1) := by decide +kernel
theorem dX2_markKept_4 : decode cX2_markKept 4 = .ok (.getfield 15, 3) := by decide +kernel
theorem dX2_markKept_7 : decode cX2_markKept 7 = .ok (.getfield 54, 3) := by decide +kernel
theorem dX2_markKept_10 : decode cX2_markKept 10 = .ok (.if_icmp .ge 82, 3) := by decide +kernel
theorem dX2_markKept_13 : decode cX2_markKept 13 = .ok (.aload_n 0, 1) := by decide +kernel
theorem dX2_markKept_14 : decode cX2_markKept 14 = .ok (.getfield 19, 3) := by decide +kernel
theorem dX2_markKept_17 : decode cX2_markKept 17 = .ok (.getfield 59, 3) := by decide +kernel
theorem dX2_markKept_20 : decode cX2_markKept 20 = .ok (.iload_n 1, 1) := by decide +kernel
theorem dX2_markKept_21 : decode cX2_markKept 21 = .ok (.iaload, 1) := by decide +kernel
theorem dX2_markKept_22 : decode cX2_markKept 22 = .ok (.iconst 1, 1) := by decide +kernel
theorem dX2_markKept_23 : decode cX2_markKept 23 = .ok (.isub, 1) := by decide +kernel
theorem dX2_markKept_24 : decode cX2_markKept 24 = .ok (.istore_n 2, 1) := by decide +kernel
theorem dX2_markKept_25 : decode cX2_markKept 25 = .ok (.aload_n 0, 1) := by decide +kernel
theorem dX2_markKept_26 : decode cX2_markKept 26 = .ok (.getfield 19, 3) := by decide +kernel
theorem dX2_markKept_29 : decode cX2_markKept 29 = .ok (.getfield 59, 3) := by decide +kernel
theorem dX2_markKept_32 : decode cX2_markKept 32 = .ok (.iload_n 1, 1) := by decide +kernel
theorem dX2_markKept_33 : decode cX2_markKept 33 = .ok (.iaload, 1) := by decide +kernel
theorem dX2_markKept_34 : decode cX2_markKept 34 = .ok (.sipush 10000, 3) := by decide +kernel
theorem dX2_markKept_37 : decode cX2_markKept 37 = .ok (.if_icmp .ne 7, 3) := by decide +kernel
theorem dX2_markKept_40 : decode cX2_markKept 40 = .ok (.iconst 0, 1) := by decide +kernel
theorem dX2_markKept_41 : decode cX2_markKept 41 = .ok (.goto 12, 3) := by decide +kernel
theorem dX2_markKept_44 : decode cX2_markKept 44 = .ok (.aload_n 0, 1) := by decide +kernel
theorem dX2_markKept_45 : decode cX2_markKept 45 = .ok (.getfield 19, 3) := by decide +kernel
theorem dX2_markKept_48 : decode cX2_markKept 48 = .ok (.iload_n 1, 1) := by decide +kernel
theorem dX2_markKept_49 : decode cX2_markKept 49 = .ok (.iload_n 2, 1) := by decide +kernel
theorem dX2_markKept_50 : decode cX2_markKept 50 = .ok (.invokevirtual 63, 3) := by decide +kernel
theorem dX2_markKept_53 : decode cX2_markKept 53 = .ok (.istore_n 3, 1) := by decide +kernel
theorem dX2_markKept_54 : decode cX2_markKept 54 = .ok (.aload_n 0, 1) := by decide +kernel
theorem dX2_markKept_55 : decode cX2_markKept 55 = .ok (.getfield 9, 3) := by decide +kernel
theorem dX2_markKept_58 : decode cX2_markKept 58 = .ok (.iload_n 1, 1) := by decide +kernel
theorem dX2_markKept_59 : decode cX2_markKept 59 = .ok (.iload_n 3, 1) := by decide +kernel
theorem dX2_markKept_60 : decode cX2_markKept 60 = .ok (.iconst 1, 1) := by decide +kernel
theorem dX2_markKept_61 : decode cX2_markKept 61 = .ok (.if_icmp .eq 19, 3) := by decide +kernel
theorem dX2_markKept_64 : decode cX2_markKept 64 = .ok (.iload_n 3, 1) := by decide +kernel
theorem dX2_markKept_65 : decode cX2_markKept 65 = .ok (.iconst 2, 1) := by decide +kernel
theorem dX2_markKept_66 : decode cX2_markKept 66 = .ok (.if_icmp .ne 18, 3) := by decide +kernel
theorem dX2_markKept_69 : decode cX2_markKept 69 = .ok (.aload_n 0, 1) := by decide +kernel
theorem dX2_markKept_70 : decode cX2_markKept 70 = .ok (.bipush 6, 2) := by decide +kernel
theorem dX2_markKept_72 : decode cX2_markKept 72 = .ok (.iload_n 1, 1) := by decide +kernel
theorem dX2_markKept_73 : decode cX2_markKept 73 = .ok (.iload_n 2, 1) := by decide +kernel
theorem dX2_markKept_74 : decode cX2_markKept 74 = .ok (.invokevirtual 67, 3) := by decide +kernel
theorem dX2_markKept_77 : decode cX2_markKept 77 = .ok (.ifCond .le 7, 3) := by decide +kernel
theorem dX2_markKept_80 : decode cX2_markKept 80 = .ok (.iconst 1, 1) := by decide +kernel
theorem dX2_markKept_81 : decode cX2_markKept 81 = .ok (.goto 4, 3) := by decide +kernel
theorem dX2_markKept_84 : decode cX2_markKept 84 = .ok (.iconst 0, 1) := by decide +kernel
theorem dX2_markKept_85 : decode cX2_markKept 85 = .ok (.bastore, 1) := by decide +kernel
theorem dX2_markKept_86 : decode cX2_markKept 86 = .ok (.iinc 1 1, 3) := by decide +kernel
theorem dX2_markKept_89 : decode cX2_markKept 89 = .ok (.goto (-87), 3) := by decide +kernel
theorem dX2_markKept_92 : decode cX2_markKept 92 = .ok (.return_, 1) := by decide +kernel
set_option maxRecDepth 100000 in
theorem t_Cn_markKept_J85 (hC : CX z ad x cX2_markKept RX2 4 none) (hR : x.2.2.1 = rmk 8 0 0) (k_2 : XS → Int32 → Option (Unit × XS)) (hk_2 : ∀ (τ : XS) (a1 : Int32), AT z x 4 (wX z σ) rU (eqA ad) 0 0 0 0 ad 2 [(0, .ref 76), (1, .int a1)] [] τ (k_2 τ a1)) (τ : XS) (a1 : Int32) (s0 : Int32) (s1 : Int32) : AT z x 4 (wX z σ) rU (eqA ad) 0 0 0 0 ad 85 [(0, .ref 76), (1, .int a1)] [.int s0, .int s1, .ref 77] τ (Cn_markKept_J85 k_2 τ a1 s0 s1) := by
  unfold Cn_markKept_J85
  refine at_zast hC 77 dX2_markKept_85 cl_77 st_77 ?_
  refine at_iinc (j := 1) (v := a1 + 1) (lv' := [(1, .int (a1 + 1)), (0, .ref 76)]) hC dX2_markKept_86 rfl rfl (by decide) rfl ?_
  refine at_goto (tgt := 2) hC dX2_markKept_89 rfl ?_
  refine at_drop (lv' := [(0, .ref 76), (1, .int (a1 + 1))]) [1, 0] rfl ?_
  exact hk_2 (xA τ 206 (upd (τ.2.1 206) s1.toNatClampNeg (vp_nar .boolean s0))) (a1 + 1)
set_option maxRecDepth 100000 in
theorem t_Cn_markKept_J80 (hC : CX z ad x cX2_markKept RX2 4 none) (hR : x.2.2.1 = rmk 8 0 0) (k_2 : XS → Int32 → Option (Unit × XS)) (hk_2 : ∀ (τ : XS) (a1 : Int32), AT z x 4 (wX z σ) rU (eqA ad) 0 0 0 0 ad 2 [(0, .ref 76), (1, .int a1)] [] τ (k_2 τ a1)) (τ : XS) (a1 : Int32) (s0 : Int32) : AT z x 4 (wX z σ) rU (eqA ad) 0 0 0 0 ad 80 [(0, .ref 76), (1, .int a1)] [.int s0, .ref 77] τ (Cn_markKept_J80 k_2 τ a1 s0) := by
  unfold Cn_markKept_J80
  refine at_iconst hC ic_1 dX2_markKept_80 ?_
  refine at_goto (tgt := 85) hC dX2_markKept_81 rfl ?_
  exact t_Cn_markKept_J85 hC hR k_2 hk_2 τ a1 1 s0
set_option maxRecDepth 100000 in
theorem t_Cn_markKept_J84 (hC : CX z ad x cX2_markKept RX2 4 none) (hR : x.2.2.1 = rmk 8 0 0) (k_2 : XS → Int32 → Option (Unit × XS)) (hk_2 : ∀ (τ : XS) (a1 : Int32), AT z x 4 (wX z σ) rU (eqA ad) 0 0 0 0 ad 2 [(0, .ref 76), (1, .int a1)] [] τ (k_2 τ a1)) (τ : XS) (a1 : Int32) (s0 : Int32) : AT z x 4 (wX z σ) rU (eqA ad) 0 0 0 0 ad 84 [(0, .ref 76), (1, .int a1)] [.int s0, .ref 77] τ (Cn_markKept_J84 k_2 τ a1 s0) := by
  unfold Cn_markKept_J84
  refine at_iconst hC ic_0 dX2_markKept_84 ?_
  exact t_Cn_markKept_J85 hC hR k_2 hk_2 τ a1 0 s0
set_option maxRecDepth 100000 in
theorem t_Cn_markKept_J53 (hC : CX z ad x cX2_markKept RX2 4 none) (hR : x.2.2.1 = rmk 8 0 0) (k_2 : XS → Int32 → Option (Unit × XS)) (hk_2 : ∀ (τ : XS) (a1 : Int32), AT z x 4 (wX z σ) rU (eqA ad) 0 0 0 0 ad 2 [(0, .ref 76), (1, .int a1)] [] τ (k_2 τ a1)) (τ : XS) (a1 : Int32) (a2 : Int32) (s0 : Int32) : AT z x 4 (wX z σ) rU (eqA ad) 0 0 0 0 ad 53 [(0, .ref 76), (1, .int a1), (2, .int a2)] [.int s0] τ (Cn_markKept_J53 k_2 τ a1 a2 s0) := by
  unfold Cn_markKept_J53
  refine at_istore_n (lv' := [(3, .int s0), (0, .ref 76), (1, .int a1), (2, .int a2)]) hC rfl dX2_markKept_53 (by decide) rfl ?_
  refine at_aload_n (j := 1) hC rfl rfl dX2_markKept_54 ?_
  refine gf_X2_9 hC dX2_markKept_55 ?_
  refine at_iload_n (j := 2) hC rfl rfl dX2_markKept_58 ?_
  refine at_iload_n (j := 0) hC rfl rfl dX2_markKept_59 ?_
  refine at_iconst hC ic_1 dX2_markKept_60 ?_
  refine at_icmp_eq (tgt := 80) hC dX2_markKept_61 rfl (fun _ => ?_) (fun _ => ?_)
  · refine at_drop (lv' := [(0, .ref 76), (1, .int a1)]) [1, 2] rfl ?_
    exact t_Cn_markKept_J80 hC hR k_2 hk_2 τ a1 a1
  · refine at_iload_n (j := 0) hC rfl rfl dX2_markKept_64 ?_
    refine at_iconst hC ic_2 dX2_markKept_65 ?_
    refine at_icmp_ne (tgt := 84) hC dX2_markKept_66 rfl (fun _ => ?_) (fun _ => ?_)
    · refine at_drop (lv' := [(0, .ref 76), (1, .int a1)]) [1, 2] rfl ?_
      exact t_Cn_markKept_J84 hC hR k_2 hk_2 τ a1 a1
    · refine at_aload_n (j := 1) hC rfl rfl dX2_markKept_69 ?_
      refine at_bipush hC bi_6 dX2_markKept_70 ?_
      refine at_iload_n (j := 2) hC rfl rfl dX2_markKept_72 ?_
      refine at_iload_n (j := 3) hC rfl rfl dX2_markKept_73 ?_
      refine at_callVI hC hR lk_X2_67 (c_Cn_comesTo τ 6 a1 a2) dX2_markKept_74 recX2 rfl rfl ⟨by decide, by decide⟩ (Nat.le_of_ble_eq_true rfl) ⟨Nat.le_refl 0, Nat.le_refl 0⟩ (fun r4 r4s _ => ?_)
      refine at_if_le (tgt := 84) hC dX2_markKept_77 rfl (fun _ => ?_) (fun _ => ?_)
      · refine at_drop (lv' := [(0, .ref 76), (1, .int a1)]) [1, 2] rfl ?_
        exact t_Cn_markKept_J84 hC hR k_2 hk_2 r4s a1 a1
      · refine at_drop (lv' := [(0, .ref 76), (1, .int a1)]) [1, 2] rfl ?_
        exact t_Cn_markKept_J80 hC hR k_2 hk_2 r4s a1 a1
set_option maxRecDepth 100000 in
theorem t_Cn_markKept_L2 (hC : CX z ad x cX2_markKept RX2 4 none) (hR : x.2.2.1 = rmk 8 0 0) (n : Nat) (τ : XS) (a1 : Int32) : AT z x 4 (wX z σ) rU (eqA ad) 0 0 0 0 ad 2 [(0, .ref 76), (1, .int a1)] [] τ (Cn_markKept_L2 n τ a1) := by
  revert τ a1
  show ∀ (τ : XS) (a1 : Int32), AT z x 4 (wX z σ) rU (eqA ad) 0 0 0 0 ad 2 [(0, .ref 76), (1, .int a1)] [] τ (Cn_markKept_L2_r n τ a1)
  induction n with
  | zero => intro τ a1; exact at_none
  | succ n hk_2 =>
    intro τ a1
    unfold Cn_markKept_L2_r
    refine at_iload_n (j := 1) hC rfl rfl dX2_markKept_2 ?_
    refine at_aload_n (j := 0) hC rfl rfl dX2_markKept_3 ?_
    refine gf_X2_15 hC dX2_markKept_4 ?_
    refine gf_X2_54 hC dX2_markKept_7 ?_
    refine at_icmp_ge (tgt := 92) hC dX2_markKept_10 rfl (fun _ => ?_) (fun _ => ?_)
    · exact at_vret (F := eqA ad) (ra := rU) hC dX2_markKept_92 rfl (Nat.le_refl 0) (Nat.le_refl 0) rfl
    · refine at_aload_n (j := 0) hC rfl rfl dX2_markKept_13 ?_
      refine gf_X2_19 hC dX2_markKept_14 ?_
      refine gf_X2_59 hC dX2_markKept_17 ?_
      refine at_iload_n (j := 1) hC rfl rfl dX2_markKept_20 ?_
      refine at_iald hC 50 dX2_markKept_21 cl_50 (fun v1 => ?_)
      refine at_iconst hC ic_1 dX2_markKept_22 ?_
      refine at_isub hC dX2_markKept_23 ?_
      refine at_istore_n (lv' := [(2, .int (v1 - 1)), (0, .ref 76), (1, .int a1)]) hC rfl dX2_markKept_24 (by decide) rfl ?_
      refine at_aload_n (j := 1) hC rfl rfl dX2_markKept_25 ?_
      refine gf_X2_19 hC dX2_markKept_26 ?_
      refine gf_X2_59 hC dX2_markKept_29 ?_
      refine at_iload_n (j := 2) hC rfl rfl dX2_markKept_32 ?_
      refine at_iald hC 50 dX2_markKept_33 cl_50 (fun v2 => ?_)
      refine at_sipush hC si_10000 dX2_markKept_34 ?_
      refine at_icmp_ne (tgt := 44) hC dX2_markKept_37 rfl (fun _ => ?_) (fun _ => ?_)
      · refine at_aload_n (j := 1) hC rfl rfl dX2_markKept_44 ?_
        refine gf_X2_19 hC dX2_markKept_45 ?_
        refine at_iload_n (j := 2) hC rfl rfl dX2_markKept_48 ?_
        refine at_iload_n (j := 0) hC rfl rfl dX2_markKept_49 ?_
        refine at_callVpI hC hR lk_X2_63 (c_Lv_standing τ a1 (v1 - 1)) dX2_markKept_50 recX4 rfl rfl ⟨by decide, by decide⟩ (Nat.le_of_ble_eq_true rfl) ⟨Nat.le_refl 0, Nat.le_refl 0⟩ (fun r3 _ => ?_)
        refine at_drop (lv' := [(0, .ref 76), (1, .int a1), (2, .int (v1 - 1))]) [1, 2, 0] rfl ?_
        exact t_Cn_markKept_J53 hC hR (Cn_markKept_L2_r n) hk_2 τ a1 (v1 - 1) r3
      · refine at_iconst hC ic_0 dX2_markKept_40 ?_
        refine at_goto (tgt := 53) hC dX2_markKept_41 rfl ?_
        refine at_drop (lv' := [(0, .ref 76), (1, .int a1), (2, .int (v1 - 1))]) [1, 2, 0] rfl ?_
        exact t_Cn_markKept_J53 hC hR (Cn_markKept_L2_r n) hk_2 τ a1 (v1 - 1) 0
set_option maxRecDepth 100000 in
theorem c_Cn_markKept (τ : XS) : Ct z (wX z σ) rU eqA yX2_markKept cX2_markKept 4 none 8 0 0 [.ref 76] τ (Cn_markKept τ) := by
  refine Ct.of (by decide) (Nat.le_of_ble_eq_true rfl) (fun ad x hC hR _ => ?_)
  show AT z x 4 (wX z σ) rU (eqA ad) 0 0 0 0 ad 0 [(0, .ref 76)] [] τ (Cn_markKept τ)
  unfold Cn_markKept
  refine at_iconst hC ic_0 dX2_markKept_0 ?_
  refine at_istore_n (lv' := [(1, .int 0), (0, .ref 76)]) hC rfl dX2_markKept_1 (by decide) rfl ?_
  refine at_drop (lv' := [(0, .ref 76), (1, .int 0)]) [1, 0] rfl ?_
  exact t_Cn_markKept_L2 hC hR 100000 τ 0
theorem dX2_look_0 : decode cX2_look 0 = .ok (.aload_n 0, 1) := by decide +kernel
theorem dX2_look_1 : decode cX2_look 1 = .ok (.getfield 19, 3) := by decide +kernel
theorem dX2_look_4 : decode cX2_look 4 = .ok (.iload_n 1, 1) := by decide +kernel
theorem dX2_look_5 : decode cX2_look 5 = .ok (.invokevirtual 35, 3) := by decide +kernel
theorem dX2_look_8 : decode cX2_look 8 = .ok (.aload_n 0, 1) := by decide +kernel
theorem dX2_look_9 : decode cX2_look 9 = .ok (.invokevirtual 41, 3) := by decide +kernel
theorem dX2_look_12 : decode cX2_look 12 = .ok (.return_, 1) := by decide +kernel
set_option maxRecDepth 100000 in
theorem c_Cn_look (τ : XS) (p0 : Int32) : Ct z (wX z σ) rU eqA yX2_look cX2_look 2 none 9 0 0 [.ref 76, .int p0] τ (Cn_look τ p0) := by
  refine Ct.of (by decide) (Nat.le_of_ble_eq_true rfl) (fun ad x hC hR _ => ?_)
  show AT z x 2 (wX z σ) rU (eqA ad) 0 0 0 0 ad 0 [(0, .ref 76), (1, .int p0)] [] τ (Cn_look τ p0)
  unfold Cn_look
  refine at_aload_n (j := 0) hC rfl rfl dX2_look_0 ?_
  refine gf_X2_19 hC dX2_look_1 ?_
  refine at_iload_n (j := 1) hC rfl rfl dX2_look_4 ?_
  refine at_callVU hC hR lk_X2_35 (c_Lv_readBook τ p0) dX2_look_5 recX4 rfl rfl ⟨by decide, by decide⟩ (Nat.le_of_ble_eq_true rfl) ⟨Nat.le_refl 0, Nat.le_refl 0⟩ (fun r1 r1s _ => ?_)
  refine at_aload_n (j := 0) hC rfl rfl dX2_look_8 ?_
  refine at_callVU hC hR lk_X2_41 (c_Cn_markKept r1s) dX2_look_9 recX2 rfl rfl ⟨by decide, by decide⟩ (Nat.le_of_ble_eq_true rfl) ⟨Nat.le_refl 0, Nat.le_refl 0⟩ (fun r2 r2s _ => ?_)
  exact at_vret (F := eqA ad) (ra := rU) hC dX2_look_12 rfl (Nat.le_refl 0) (Nat.le_refl 0) rfl
theorem dX9_dieByRow_0 : decode cX9_dieByRow 0 = .ok (.iconst 0, 1) := by decide +kernel
theorem dX9_dieByRow_1 : decode cX9_dieByRow 1 = .ok (.istore_n 3, 1) := by decide +kernel
theorem dX9_dieByRow_2 : decode cX9_dieByRow 2 = .ok (.iload_n 3, 1) := by decide +kernel
theorem dX9_dieByRow_3 : decode cX9_dieByRow 3 = .ok (.aload_n 0, 1) := by decide +kernel
theorem dX9_dieByRow_4 : decode cX9_dieByRow 4 = .ok (.getfield 9, 3) := by decide +kernel
theorem dX9_dieByRow_7 : decode cX9_dieByRow 7 = .ok (.iload_n 2, 1) := by decide +kernel
theorem dX9_dieByRow_8 : decode cX9_dieByRow 8 = .ok (.iaload, 1) := by decide +kernel
theorem dX9_dieByRow_9 : decode cX9_dieByRow 9 = .ok (.if_icmp .ge 62, 3) := by decide +kernel
theorem dX9_dieByRow_12 : decode cX9_dieByRow 12 = .ok (.iload_n 2, 1) := by decide +kernel
theorem dX9_dieByRow_13 : decode cX9_dieByRow 13 = .ok (.bipush 8, 2) := by decide +kernel
theorem dX9_dieByRow_15 : decode cX9_dieByRow 15 = .ok (.imul, 1) := by decide +kernel
theorem dX9_dieByRow_16 : decode cX9_dieByRow 16 = .ok (.iload_n 3, 1) := by decide +kernel
theorem dX9_dieByRow_17 : decode cX9_dieByRow 17 = .ok (.iadd, 1) := by decide +kernel
theorem dX9_dieByRow_18 : decode cX9_dieByRow 18 = .ok (.istore 4, 2) := by decide +kernel
theorem dX9_dieByRow_20 : decode cX9_dieByRow 20 = .ok (.aload_n 0, 1) := by decide +kernel
theorem dX9_dieByRow_21 : decode cX9_dieByRow 21 = .ok (.getfield 18, 3) := by decide +kernel
theorem dX9_dieByRow_24 : decode cX9_dieByRow 24 = .ok (.iload 4, 2) := by decide +kernel
theorem dX9_dieByRow_26 : decode cX9_dieByRow 26 = .ok (.iaload, 1) := by decide +kernel
theorem dX9_dieByRow_27 : decode cX9_dieByRow 27 = .ok (.bipush 100, 2) := by decide +kernel
theorem dX9_dieByRow_29 : decode cX9_dieByRow 29 = .ok (.imul, 1) := by decide +kernel
theorem dX9_dieByRow_30 : decode cX9_dieByRow 30 = .ok (.bipush 50, 2) := by decide +kernel
theorem dX9_dieByRow_32 : decode cX9_dieByRow 32 = .ok (.iadd, 1) := by decide +kernel
theorem dX9_dieByRow_33 : decode cX9_dieByRow 33 = .ok (.istore 5, 2) := by decide +kernel
theorem dX9_dieByRow_35 : decode cX9_dieByRow 35 = .ok (.aload_n 1, 1) := by decide +kernel
theorem dX9_dieByRow_36 : decode cX9_dieByRow 36 = .ok (.aload_n 0, 1) := by decide +kernel
theorem dX9_dieByRow_37 : decode cX9_dieByRow 37 = .ok (.getfield 15, 3) := by decide +kernel
theorem dX9_dieByRow_40 : decode cX9_dieByRow 40 = .ok (.iload 4, 2) := by decide +kernel
theorem dX9_dieByRow_42 : decode cX9_dieByRow 42 = .ok (.iaload, 1) := by decide +kernel
theorem dX9_dieByRow_43 : decode cX9_dieByRow 43 = .ok (.iload 5, 2) := by decide +kernel
theorem dX9_dieByRow_45 : decode cX9_dieByRow 45 = .ok (.invokevirtual 35, 3) := by decide +kernel
theorem dX9_dieByRow_48 : decode cX9_dieByRow 48 = .ok (.ifCond .eq 17, 3) := by decide +kernel
theorem dX9_dieByRow_51 : decode cX9_dieByRow 51 = .ok (.aload_n 1, 1) := by decide +kernel
theorem dX9_dieByRow_52 : decode cX9_dieByRow 52 = .ok (.getfield 41, 3) := by decide +kernel
theorem dX9_dieByRow_55 : decode cX9_dieByRow 55 = .ok (.aload_n 0, 1) := by decide +kernel
theorem dX9_dieByRow_56 : decode cX9_dieByRow 56 = .ok (.getfield 15, 3) := by decide +kernel
theorem dX9_dieByRow_59 : decode cX9_dieByRow 59 = .ok (.iload 4, 2) := by decide +kernel
theorem dX9_dieByRow_61 : decode cX9_dieByRow 61 = .ok (.iaload, 1) := by decide +kernel
theorem dX9_dieByRow_62 : decode cX9_dieByRow 62 = .ok (.iload 5, 2) := by decide +kernel
theorem dX9_dieByRow_64 : decode cX9_dieByRow 64 = .ok (.iastore, 1) := by decide +kernel
theorem dX9_dieByRow_65 : decode cX9_dieByRow 65 = .ok (.iinc 3 1, 3) := by decide +kernel
theorem dX9_dieByRow_68 : decode cX9_dieByRow 68 = .ok (.goto (-66), 3) := by decide +kernel
theorem dX9_dieByRow_71 : decode cX9_dieByRow 71 = .ok (.return_, 1) := by decide +kernel
set_option maxRecDepth 100000 in
theorem t_Tr_dieByRow_J65 (hC : CX z ad x cX9_dieByRow RX9 6 none) (hR : x.2.2.1 = rmk 2 0 0) (k_2 : XS → Int32 → Int32 → Option (Unit × XS)) (hk_2 : ∀ (τ : XS) (a2 : Int32) (a3 : Int32), AT z x 6 (wX z σ) rU (eqA ad) 0 0 0 0 ad 2 [(0, .ref 70), (1, .ref 49), (2, .int a2), (3, .int a3)] [] τ (k_2 τ a2 a3)) (τ : XS) (a2 : Int32) (a3 : Int32) : AT z x 6 (wX z σ) rU (eqA ad) 0 0 0 0 ad 65 [(0, .ref 70), (1, .ref 49), (2, .int a2), (3, .int a3)] [] τ (Tr_dieByRow_J65 k_2 τ a2 a3) := by
  unfold Tr_dieByRow_J65
  refine at_iinc (j := 3) (v := a3 + 1) (lv' := [(3, .int (a3 + 1)), (0, .ref 70), (1, .ref 49), (2, .int a2)]) hC dX9_dieByRow_65 rfl rfl (by decide) rfl ?_
  refine at_goto (tgt := 2) hC dX9_dieByRow_68 rfl ?_
  refine at_drop (lv' := [(0, .ref 70), (1, .ref 49), (2, .int a2), (3, .int (a3 + 1))]) [1, 2, 3, 0] rfl ?_
  exact hk_2 τ a2 (a3 + 1)
set_option maxRecDepth 100000 in
theorem t_Tr_dieByRow_L2 (hC : CX z ad x cX9_dieByRow RX9 6 none) (hR : x.2.2.1 = rmk 2 0 0) (n : Nat) (τ : XS) (a2 : Int32) (a3 : Int32) : AT z x 6 (wX z σ) rU (eqA ad) 0 0 0 0 ad 2 [(0, .ref 70), (1, .ref 49), (2, .int a2), (3, .int a3)] [] τ (Tr_dieByRow_L2 n τ a2 a3) := by
  revert τ a2 a3
  show ∀ (τ : XS) (a2 : Int32) (a3 : Int32), AT z x 6 (wX z σ) rU (eqA ad) 0 0 0 0 ad 2 [(0, .ref 70), (1, .ref 49), (2, .int a2), (3, .int a3)] [] τ (Tr_dieByRow_L2_r n τ a2 a3)
  induction n with
  | zero => intro τ a2 a3; exact at_none
  | succ n hk_2 =>
    intro τ a2 a3
    unfold Tr_dieByRow_L2_r
    refine at_iload_n (j := 3) hC rfl rfl dX9_dieByRow_2 ?_
    refine at_aload_n (j := 0) hC rfl rfl dX9_dieByRow_3 ?_
    refine gf_X9_9 hC dX9_dieByRow_4 ?_
    refine at_iload_n (j := 2) hC rfl rfl dX9_dieByRow_7 ?_
    refine at_iald hC 71 dX9_dieByRow_8 cl_71 (fun v1 => ?_)
    refine at_icmp_ge (tgt := 71) hC dX9_dieByRow_9 rfl (fun _ => ?_) (fun _ => ?_)
    · exact at_vret (F := eqA ad) (ra := rU) hC dX9_dieByRow_71 rfl (Nat.le_refl 0) (Nat.le_refl 0) rfl
    · refine at_iload_n (j := 2) hC rfl rfl dX9_dieByRow_12 ?_
      refine at_bipush hC bi_8 dX9_dieByRow_13 ?_
      refine at_imul hC dX9_dieByRow_15 ?_
      refine at_iload_n (j := 3) hC rfl rfl dX9_dieByRow_16 ?_
      refine at_iadd hC dX9_dieByRow_17 ?_
      refine at_istore (lv' := [(4, .int ((a2 * 8) + a3)), (0, .ref 70), (1, .ref 49), (2, .int a2), (3, .int a3)]) hC dX9_dieByRow_18 (by decide) rfl ?_
      refine at_aload_n (j := 1) hC rfl rfl dX9_dieByRow_20 ?_
      refine gf_X9_18 hC dX9_dieByRow_21 ?_
      refine at_iload (j := 0) hC rfl dX9_dieByRow_24 ?_
      refine at_iald hC 73 dX9_dieByRow_26 cl_73 (fun v2 => ?_)
      refine at_bipush hC bi_100 dX9_dieByRow_27 ?_
      refine at_imul hC dX9_dieByRow_29 ?_
      refine at_bipush hC bi_50 dX9_dieByRow_30 ?_
      refine at_iadd hC dX9_dieByRow_32 ?_
      refine at_istore (lv' := [(5, .int ((v2 * 100) + 50)), (4, .int ((a2 * 8) + a3)), (0, .ref 70), (1, .ref 49), (2, .int a2), (3, .int a3)]) hC dX9_dieByRow_33 (by decide) rfl ?_
      refine at_aload_n (j := 3) hC rfl rfl dX9_dieByRow_35 ?_
      refine at_aload_n (j := 2) hC rfl rfl dX9_dieByRow_36 ?_
      refine gf_X9_15 hC dX9_dieByRow_37 ?_
      refine at_iload (j := 1) hC rfl dX9_dieByRow_40 ?_
      refine at_iald hC 72 dX9_dieByRow_42 cl_72 (fun v3 => ?_)
      refine at_iload (j := 0) hC rfl dX9_dieByRow_43 ?_
      refine at_callVpI hC hR lk_X9_35 (c_Lv_livesOn τ v3 ((v2 * 100) + 50)) dX9_dieByRow_45 recX4 rfl rfl ⟨by decide, by decide⟩ (Nat.le_of_ble_eq_true rfl) ⟨Nat.le_refl 0, Nat.le_refl 0⟩ (fun r4 _ => ?_)
      refine at_if_eq (tgt := 65) hC dX9_dieByRow_48 rfl (fun _ => ?_) (fun _ => ?_)
      · refine at_drop (lv' := [(0, .ref 70), (1, .ref 49), (2, .int a2), (3, .int a3)]) [2, 3, 4, 5] rfl ?_
        exact t_Tr_dieByRow_J65 hC hR (Tr_dieByRow_L2_r n) hk_2 τ a2 a3
      · refine at_aload_n (j := 3) hC rfl rfl dX9_dieByRow_51 ?_
        refine gf_X9_41 hC dX9_dieByRow_52 ?_
        refine at_aload_n (j := 2) hC rfl rfl dX9_dieByRow_55 ?_
        refine gf_X9_15 hC dX9_dieByRow_56 ?_
        refine at_iload (j := 1) hC rfl dX9_dieByRow_59 ?_
        refine at_iald hC 72 dX9_dieByRow_61 cl_72 (fun v5 => ?_)
        refine at_iload (j := 0) hC rfl dX9_dieByRow_62 ?_
        refine at_iast hC 50 dX9_dieByRow_64 cl_50 st_50 ?_
        refine at_drop (lv' := [(0, .ref 70), (1, .ref 49), (2, .int a2), (3, .int a3)]) [2, 3, 4, 5] rfl ?_
        exact t_Tr_dieByRow_J65 hC hR (Tr_dieByRow_L2_r n) hk_2 (xA τ 401 (upd (τ.2.1 401) v5.toNatClampNeg ((v2 * 100) + 50))) a2 a3
set_option maxRecDepth 100000 in
theorem c_Tr_dieByRow (τ : XS) (p1 : Int32) : Ct z (wX z σ) rU eqA yX9_dieByRow cX9_dieByRow 6 none 2 0 0 [.ref 70, .ref 49, .int p1] τ (Tr_dieByRow τ p1) := by
  refine Ct.of (by decide) (Nat.le_of_ble_eq_true rfl) (fun ad x hC hR _ => ?_)
  show AT z x 6 (wX z σ) rU (eqA ad) 0 0 0 0 ad 0 [(0, .ref 70), (1, .ref 49), (2, .int p1)] [] τ (Tr_dieByRow τ p1)
  unfold Tr_dieByRow
  refine at_iconst hC ic_0 dX9_dieByRow_0 ?_
  refine at_istore_n (lv' := [(3, .int 0), (0, .ref 70), (1, .ref 49), (2, .int p1)]) hC rfl dX9_dieByRow_1 (by decide) rfl ?_
  refine at_drop (lv' := [(0, .ref 70), (1, .ref 49), (2, .int p1), (3, .int 0)]) [1, 2, 3, 0] rfl ?_
  exact t_Tr_dieByRow_L2 hC hR 100000 τ p1 0
theorem dX2_lookByRow_0 : decode cX2_lookByRow 0 = .ok (.aload_n 0, 1) := by decide +kernel
theorem dX2_lookByRow_1 : decode cX2_lookByRow 1 = .ok (.getfield 19, 3) := by decide +kernel
theorem dX2_lookByRow_4 : decode cX2_lookByRow 4 = .ok (.iconst (-1), 1) := by decide +kernel
theorem dX2_lookByRow_5 : decode cX2_lookByRow 5 = .ok (.invokevirtual 35, 3) := by decide +kernel
theorem dX2_lookByRow_8 : decode cX2_lookByRow 8 = .ok (.iload_n 1, 1) := by decide +kernel
theorem dX2_lookByRow_9 : decode cX2_lookByRow 9 = .ok (.ifCond .lt 26, 3) := by decide +kernel
theorem dX2_lookByRow_12 : decode cX2_lookByRow 12 = .ok (.iload_n 1, 1) := by decide +kernel
theorem dX2_lookByRow_13 : decode cX2_lookByRow 13 = .ok (.aload_n 0, 1) := by decide +kernel
theorem dX2_lookByRow_14 : decode cX2_lookByRow 14 = .ok (.getfield 31, 3) := by decide +kernel
theorem dX2_lookByRow_17 : decode cX2_lookByRow 17 = .ok (.getfield 44, 3) := by decide +kernel
theorem dX2_lookByRow_20 : decode cX2_lookByRow 20 = .ok (.if_icmp .ge 15, 3) := by decide +kernel
theorem dX2_lookByRow_23 : decode cX2_lookByRow 23 = .ok (.aload_n 0, 1) := by decide +kernel
theorem dX2_lookByRow_24 : decode cX2_lookByRow 24 = .ok (.getfield 31, 3) := by decide +kernel
theorem dX2_lookByRow_27 : decode cX2_lookByRow 27 = .ok (.aload_n 0, 1) := by decide +kernel
theorem dX2_lookByRow_28 : decode cX2_lookByRow 28 = .ok (.getfield 19, 3) := by decide +kernel
theorem dX2_lookByRow_31 : decode cX2_lookByRow 31 = .ok (.iload_n 1, 1) := by decide +kernel
theorem dX2_lookByRow_32 : decode cX2_lookByRow 32 = .ok (.invokevirtual 50, 3) := by decide +kernel
theorem dX2_lookByRow_35 : decode cX2_lookByRow 35 = .ok (.aload_n 0, 1) := by decide +kernel
theorem dX2_lookByRow_36 : decode cX2_lookByRow 36 = .ok (.invokevirtual 41, 3) := by decide +kernel
theorem dX2_lookByRow_39 : decode cX2_lookByRow 39 = .ok (.return_, 1) := by decide +kernel
set_option maxRecDepth 100000 in
theorem t_Cn_lookByRow_J35 (hC : CX z ad x cX2_lookByRow RX2 2 none) (hR : x.2.2.1 = rmk 9 0 0) (τ : XS) : AT z x 2 (wX z σ) rU (eqA ad) 0 0 0 0 ad 35 [(0, .ref 76)] [] τ (Cn_lookByRow_J35 τ) := by
  unfold Cn_lookByRow_J35
  refine at_aload_n (j := 0) hC rfl rfl dX2_lookByRow_35 ?_
  refine at_callVU hC hR lk_X2_41 (c_Cn_markKept τ) dX2_lookByRow_36 recX2 rfl rfl ⟨by decide, by decide⟩ (Nat.le_of_ble_eq_true rfl) ⟨Nat.le_refl 0, Nat.le_refl 0⟩ (fun r2 r2s _ => ?_)
  exact at_vret (F := eqA ad) (ra := rU) hC dX2_lookByRow_39 rfl (Nat.le_refl 0) (Nat.le_refl 0) rfl
set_option maxRecDepth 100000 in
theorem c_Cn_lookByRow (τ : XS) (p0 : Int32) : Ct z (wX z σ) rU eqA yX2_lookByRow cX2_lookByRow 2 none 9 0 0 [.ref 76, .int p0] τ (Cn_lookByRow τ p0) := by
  refine Ct.of (by decide) (Nat.le_of_ble_eq_true rfl) (fun ad x hC hR _ => ?_)
  show AT z x 2 (wX z σ) rU (eqA ad) 0 0 0 0 ad 0 [(0, .ref 76), (1, .int p0)] [] τ (Cn_lookByRow τ p0)
  unfold Cn_lookByRow
  refine at_aload_n (j := 0) hC rfl rfl dX2_lookByRow_0 ?_
  refine gf_X2_19 hC dX2_lookByRow_1 ?_
  refine at_iconst hC ic_m1 dX2_lookByRow_4 ?_
  refine at_callVU hC hR lk_X2_35 (c_Lv_readBook τ (-1)) dX2_lookByRow_5 recX4 rfl rfl ⟨by decide, by decide⟩ (Nat.le_of_ble_eq_true rfl) ⟨Nat.le_refl 0, Nat.le_refl 0⟩ (fun r1 r1s _ => ?_)
  refine at_iload_n (j := 1) hC rfl rfl dX2_lookByRow_8 ?_
  refine at_if_lt (tgt := 35) hC dX2_lookByRow_9 rfl (fun _ => ?_) (fun _ => ?_)
  · refine at_drop (lv' := [(0, .ref 76)]) [0] rfl ?_
    exact t_Cn_lookByRow_J35 hC hR r1s
  · refine at_iload_n (j := 1) hC rfl rfl dX2_lookByRow_12 ?_
    refine at_aload_n (j := 0) hC rfl rfl dX2_lookByRow_13 ?_
    refine gf_X2_31 hC dX2_lookByRow_14 ?_
    refine gf_X2_44 hC dX2_lookByRow_17 ?_
    refine at_icmp_ge (tgt := 35) hC dX2_lookByRow_20 rfl (fun _ => ?_) (fun _ => ?_)
    · refine at_drop (lv' := [(0, .ref 76)]) [0] rfl ?_
      exact t_Cn_lookByRow_J35 hC hR r1s
    · refine at_aload_n (j := 0) hC rfl rfl dX2_lookByRow_23 ?_
      refine gf_X2_31 hC dX2_lookByRow_24 ?_
      refine at_aload_n (j := 0) hC rfl rfl dX2_lookByRow_27 ?_
      refine gf_X2_19 hC dX2_lookByRow_28 ?_
      refine at_iload_n (j := 1) hC rfl rfl dX2_lookByRow_31 ?_
      refine at_callVU hC hR lk_X2_50 (c_Tr_dieByRow r1s p0) dX2_lookByRow_32 recX9 rfl rfl ⟨by decide, by decide⟩ (Nat.le_of_ble_eq_true rfl) ⟨Nat.le_refl 0, Nat.le_refl 0⟩ (fun r3 r3s _ => ?_)
      refine at_drop (lv' := [(0, .ref 76)]) [0] rfl ?_
      exact t_Cn_lookByRow_J35 hC hR r3s
theorem dX2_isLate_0 : decode cX2_isLate 0 = .ok (.aload_n 0, 1) := by decide +kernel
theorem dX2_isLate_1 : decode cX2_isLate 1 = .ok (.getfield 19, 3) := by decide +kernel
theorem dX2_isLate_4 : decode cX2_isLate 4 = .ok (.iload_n 1, 1) := by decide +kernel
theorem dX2_isLate_5 : decode cX2_isLate 5 = .ok (.iload_n 2, 1) := by decide +kernel
theorem dX2_isLate_6 : decode cX2_isLate 6 = .ok (.iconst 4, 1) := by decide +kernel
theorem dX2_isLate_7 : decode cX2_isLate 7 = .ok (.invokevirtual 105, 3) := by decide +kernel
theorem dX2_isLate_10 : decode cX2_isLate 10 = .ok (.istore_n 3, 1) := by decide +kernel
theorem dX2_isLate_11 : decode cX2_isLate 11 = .ok (.iload_n 3, 1) := by decide +kernel
theorem dX2_isLate_12 : decode cX2_isLate 12 = .ok (.ifCond .ge 5, 3) := by decide +kernel
theorem dX2_isLate_15 : decode cX2_isLate 15 = .ok (.iconst 0, 1) := by decide +kernel
theorem dX2_isLate_16 : decode cX2_isLate 16 = .ok (.ireturn, 1) := by decide +kernel
theorem dX2_isLate_17 : decode cX2_isLate 17 = .ok (.aload_n 0, 1) := by decide +kernel
theorem dX2_isLate_18 : decode cX2_isLate 18 = .ok (.getfield 15, 3) := by decide +kernel
theorem dX2_isLate_21 : decode cX2_isLate 21 = .ok (.getfield 108, 3) := by decide +kernel
theorem dX2_isLate_24 : decode cX2_isLate 24 = .ok (.iload_n 3, 1) := by decide +kernel
theorem dX2_isLate_25 : decode cX2_isLate 25 = .ok (.iaload, 1) := by decide +kernel
theorem dX2_isLate_26 : decode cX2_isLate 26 = .ok (.istore 4, 2) := by decide +kernel
theorem dX2_isLate_28 : decode cX2_isLate 28 = .ok (.aload_n 0, 1) := by decide +kernel
theorem dX2_isLate_29 : decode cX2_isLate 29 = .ok (.getfield 15, 3) := by decide +kernel
theorem dX2_isLate_32 : decode cX2_isLate 32 = .ok (.iload_n 1, 1) := by decide +kernel
theorem dX2_isLate_33 : decode cX2_isLate 33 = .ok (.iload 4, 2) := by decide +kernel
theorem dX2_isLate_35 : decode cX2_isLate 35 = .ok (.invokevirtual 102, 3) := by decide +kernel
theorem dX2_isLate_38 : decode cX2_isLate 38 = .ok (.aload_n 0, 1) := by decide +kernel
theorem dX2_isLate_39 : decode cX2_isLate 39 = .ok (.bipush 8, 2) := by decide +kernel
theorem dX2_isLate_41 : decode cX2_isLate 41 = .ok (.iload_n 1, 1) := by decide +kernel
theorem dX2_isLate_42 : decode cX2_isLate 42 = .ok (.iload 4, 2) := by decide +kernel
theorem dX2_isLate_44 : decode cX2_isLate 44 = .ok (.invokevirtual 67, 3) := by decide +kernel
theorem dX2_isLate_47 : decode cX2_isLate 47 = .ok (.if_icmp .le 7, 3) := by decide +kernel
theorem dX2_isLate_50 : decode cX2_isLate 50 = .ok (.iconst 1, 1) := by decide +kernel
theorem dX2_isLate_51 : decode cX2_isLate 51 = .ok (.goto 4, 3) := by decide +kernel
theorem dX2_isLate_54 : decode cX2_isLate 54 = .ok (.iconst 0, 1) := by decide +kernel
theorem dX2_isLate_55 : decode cX2_isLate 55 = .ok (.ireturn, 1) := by decide +kernel
set_option maxRecDepth 100000 in
theorem c_Cn_isLate (τ : XS) (p0 : Int32) (p1 : Int32) : Ct z (wX z σ) rI eqA yX2_isLate cX2_isLate 5 (some .boolean) 8 0 0 [.ref 76, .int p0, .int p1] τ (Cn_isLate τ p0 p1) := by
  refine Ct.of (by decide) (Nat.le_of_ble_eq_true rfl) (fun ad x hC hR _ => ?_)
  show AT z x 5 (wX z σ) rI (eqA ad) 0 0 0 0 ad 0 [(0, .ref 76), (1, .int p0), (2, .int p1)] [] τ (Cn_isLate τ p0 p1)
  unfold Cn_isLate
  refine at_aload_n (j := 0) hC rfl rfl dX2_isLate_0 ?_
  refine gf_X2_19 hC dX2_isLate_1 ?_
  refine at_iload_n (j := 1) hC rfl rfl dX2_isLate_4 ?_
  refine at_iload_n (j := 2) hC rfl rfl dX2_isLate_5 ?_
  refine at_iconst hC ic_4 dX2_isLate_6 ?_
  refine at_callVpI hC hR lk_X2_105 (c_Lv_firstOf τ p0 p1 4) dX2_isLate_7 recX4 rfl rfl ⟨by decide, by decide⟩ (Nat.le_of_ble_eq_true rfl) ⟨Nat.le_refl 0, Nat.le_refl 0⟩ (fun r1 _ => ?_)
  refine at_istore_n (lv' := [(3, .int r1), (0, .ref 76), (1, .int p0), (2, .int p1)]) hC rfl dX2_isLate_10 (by decide) rfl ?_
  refine at_iload_n (j := 0) hC rfl rfl dX2_isLate_11 ?_
  refine at_if_ge (tgt := 17) hC dX2_isLate_12 rfl (fun _ => ?_) (fun _ => ?_)
  · refine at_aload_n (j := 1) hC rfl rfl dX2_isLate_17 ?_
    refine gf_X2_15 hC dX2_isLate_18 ?_
    refine gf_X2_108 hC dX2_isLate_21 ?_
    refine at_iload_n (j := 0) hC rfl rfl dX2_isLate_24 ?_
    refine at_iald hC 45 dX2_isLate_25 cl_45 (fun v2 => ?_)
    refine at_istore (lv' := [(4, .int v2), (3, .int r1), (0, .ref 76), (1, .int p0), (2, .int p1)]) hC dX2_isLate_26 (by decide) rfl ?_
    refine at_aload_n (j := 2) hC rfl rfl dX2_isLate_28 ?_
    refine gf_X2_15 hC dX2_isLate_29 ?_
    refine at_iload_n (j := 3) hC rfl rfl dX2_isLate_32 ?_
    refine at_iload (j := 0) hC rfl dX2_isLate_33 ?_
    refine at_callVpI hC hR lk_X2_102 (c_Bk_ageOn τ p0 v2) dX2_isLate_35 recX1 rfl rfl ⟨by decide, by decide⟩ (Nat.le_of_ble_eq_true rfl) ⟨Nat.le_refl 0, Nat.le_refl 0⟩ (fun r3 _ => ?_)
    refine at_aload_n (j := 2) hC rfl rfl dX2_isLate_38 ?_
    refine at_bipush hC bi_8 dX2_isLate_39 ?_
    refine at_iload_n (j := 3) hC rfl rfl dX2_isLate_41 ?_
    refine at_iload (j := 0) hC rfl dX2_isLate_42 ?_
    refine at_callVI hC hR lk_X2_67 (c_Cn_comesTo τ 8 p0 v2) dX2_isLate_44 recX2 rfl rfl ⟨by decide, by decide⟩ (Nat.le_of_ble_eq_true rfl) ⟨Nat.le_refl 0, Nat.le_refl 0⟩ (fun r4 r4s _ => ?_)
    refine at_icmp_le (tgt := 54) hC dX2_isLate_47 rfl (fun _ => ?_) (fun _ => ?_)
    · refine at_iconst hC ic_0 dX2_isLate_54 ?_
      exact at_zret (F := eqA ad) (ra := rI) hC nb0 dX2_isLate_55 rfl (Nat.le_refl 0) (Nat.le_refl 0) rfl
    · refine at_iconst hC ic_1 dX2_isLate_50 ?_
      refine at_goto (tgt := 55) hC dX2_isLate_51 rfl ?_
      exact at_zret (F := eqA ad) (ra := rI) hC nb1 dX2_isLate_55 rfl (Nat.le_refl 0) (Nat.le_refl 0) rfl
  · refine at_iconst hC ic_0 dX2_isLate_15 ?_
    exact at_zret (F := eqA ad) (ra := rI) hC nb0 dX2_isLate_16 rfl (Nat.le_refl 0) (Nat.le_refl 0) rfl
theorem dX2_deadHusband_0 : decode cX2_deadHusband 0 = .ok (.aload_n 0, 1) := by decide +kernel
theorem dX2_deadHusband_1 : decode cX2_deadHusband 1 = .ok (.getfield 15, 3) := by decide +kernel
theorem dX2_deadHusband_4 : decode cX2_deadHusband 4 = .ok (.iload_n 1, 1) := by decide +kernel
theorem dX2_deadHusband_5 : decode cX2_deadHusband 5 = .ok (.invokevirtual 111, 3) := by decide +kernel
theorem dX2_deadHusband_8 : decode cX2_deadHusband 8 = .ok (.ifCond .eq 15, 3) := by decide +kernel
theorem dX2_deadHusband_11 : decode cX2_deadHusband 11 = .ok (.aload_n 0, 1) := by decide +kernel
theorem dX2_deadHusband_12 : decode cX2_deadHusband 12 = .ok (.getfield 19, 3) := by decide +kernel
theorem dX2_deadHusband_15 : decode cX2_deadHusband 15 = .ok (.iload_n 1, 1) := by decide +kernel
theorem dX2_deadHusband_16 : decode cX2_deadHusband 16 = .ok (.iload_n 2, 1) := by decide +kernel
theorem dX2_deadHusband_17 : decode cX2_deadHusband 17 = .ok (.invokevirtual 86, 3) := by decide +kernel
theorem dX2_deadHusband_20 : decode cX2_deadHusband 20 = .ok (.ifCond .ne 5, 3) := by decide +kernel
theorem dX2_deadHusband_23 : decode cX2_deadHusband 23 = .ok (.iconst (-1), 1) := by decide +kernel
theorem dX2_deadHusband_24 : decode cX2_deadHusband 24 = .ok (.ireturn, 1) := by decide +kernel
theorem dX2_deadHusband_25 : decode cX2_deadHusband 25 = .ok (.aload_n 0, 1) := by decide +kernel
theorem dX2_deadHusband_26 : decode cX2_deadHusband 26 = .ok (.getfield 19, 3) := by decide +kernel
theorem dX2_deadHusband_29 : decode cX2_deadHusband 29 = .ok (.iload_n 1, 1) := by decide +kernel
theorem dX2_deadHusband_30 : decode cX2_deadHusband 30 = .ok (.iload_n 2, 1) := by decide +kernel
theorem dX2_deadHusband_31 : decode cX2_deadHusband 31 = .ok (.iconst 2, 1) := by decide +kernel
theorem dX2_deadHusband_32 : decode cX2_deadHusband 32 = .ok (.invokevirtual 115, 3) := by decide +kernel
theorem dX2_deadHusband_35 : decode cX2_deadHusband 35 = .ok (.istore_n 3, 1) := by decide +kernel
theorem dX2_deadHusband_36 : decode cX2_deadHusband 36 = .ok (.iload_n 3, 1) := by decide +kernel
theorem dX2_deadHusband_37 : decode cX2_deadHusband 37 = .ok (.ifCond .ge 5, 3) := by decide +kernel
theorem dX2_deadHusband_40 : decode cX2_deadHusband 40 = .ok (.iconst (-1), 1) := by decide +kernel
theorem dX2_deadHusband_41 : decode cX2_deadHusband 41 = .ok (.ireturn, 1) := by decide +kernel
theorem dX2_deadHusband_42 : decode cX2_deadHusband 42 = .ok (.aload_n 0, 1) := by decide +kernel
theorem dX2_deadHusband_43 : decode cX2_deadHusband 43 = .ok (.getfield 15, 3) := by decide +kernel
theorem dX2_deadHusband_46 : decode cX2_deadHusband 46 = .ok (.getfield 118, 3) := by decide +kernel
theorem dX2_deadHusband_49 : decode cX2_deadHusband 49 = .ok (.iload_n 3, 1) := by decide +kernel
theorem dX2_deadHusband_50 : decode cX2_deadHusband 50 = .ok (.iaload, 1) := by decide +kernel
theorem dX2_deadHusband_51 : decode cX2_deadHusband 51 = .ok (.istore 4, 2) := by decide +kernel
theorem dX2_deadHusband_53 : decode cX2_deadHusband 53 = .ok (.aload_n 0, 1) := by decide +kernel
theorem dX2_deadHusband_54 : decode cX2_deadHusband 54 = .ok (.getfield 19, 3) := by decide +kernel
theorem dX2_deadHusband_57 : decode cX2_deadHusband 57 = .ok (.getfield 59, 3) := by decide +kernel
theorem dX2_deadHusband_60 : decode cX2_deadHusband 60 = .ok (.iload 4, 2) := by decide +kernel
theorem dX2_deadHusband_62 : decode cX2_deadHusband 62 = .ok (.iaload, 1) := by decide +kernel
theorem dX2_deadHusband_63 : decode cX2_deadHusband 63 = .ok (.iload_n 2, 1) := by decide +kernel
theorem dX2_deadHusband_64 : decode cX2_deadHusband 64 = .ok (.if_icmp .gt 18, 3) := by decide +kernel
theorem dX2_deadHusband_67 : decode cX2_deadHusband 67 = .ok (.aload_n 0, 1) := by decide +kernel
theorem dX2_deadHusband_68 : decode cX2_deadHusband 68 = .ok (.getfield 9, 3) := by decide +kernel
theorem dX2_deadHusband_71 : decode cX2_deadHusband 71 = .ok (.iload 4, 2) := by decide +kernel
theorem dX2_deadHusband_73 : decode cX2_deadHusband 73 = .ok (.baload, 1) := by decide +kernel
theorem dX2_deadHusband_74 : decode cX2_deadHusband 74 = .ok (.ifCond .eq 8, 3) := by decide +kernel
theorem dX2_deadHusband_77 : decode cX2_deadHusband 77 = .ok (.iload 4, 2) := by decide +kernel
theorem dX2_deadHusband_79 : decode cX2_deadHusband 79 = .ok (.goto 4, 3) := by decide +kernel
theorem dX2_deadHusband_82 : decode cX2_deadHusband 82 = .ok (.iconst (-1), 1) := by decide +kernel
theorem dX2_deadHusband_83 : decode cX2_deadHusband 83 = .ok (.ireturn, 1) := by decide +kernel
set_option maxRecDepth 100000 in
theorem c_Cn_deadHusband (τ : XS) (p0 : Int32) (p1 : Int32) : Ct z (wX z σ) rI eqA yX2_deadHusband cX2_deadHusband 5 (some .int) 3 0 0 [.ref 76, .int p0, .int p1] τ ((Cn_deadHusband τ p0 p1).map fun r => (r, τ)) := by
  refine Ct.of (by decide) (Nat.le_of_ble_eq_true rfl) (fun ad x hC hR _ => ?_)
  show AT z x 5 (wX z σ) rI (eqA ad) 0 0 0 0 ad 0 [(0, .ref 76), (1, .int p0), (2, .int p1)] [] τ ((Cn_deadHusband τ p0 p1).map fun r => (r, τ))
  unfold Cn_deadHusband
  refine at_aload_n (j := 0) hC rfl rfl dX2_deadHusband_0 ?_
  refine gf_X2_15 hC dX2_deadHusband_1 ?_
  refine at_iload_n (j := 1) hC rfl rfl dX2_deadHusband_4 ?_
  refine ap_callVI hC hR lk_X2_111 (c_Bk_isWoman τ p0) dX2_deadHusband_5 recX1 rfl rfl ⟨by decide, by decide⟩ (Nat.le_of_ble_eq_true rfl) ⟨Nat.le_refl 0, Nat.le_refl 0⟩ (fun r1 _ => ?_)
  refine ap_if_eq (tgt := 23) hC dX2_deadHusband_8 rfl (fun _ => ?_) (fun _ => ?_)
  · refine at_iconst hC ic_m1 dX2_deadHusband_23 ?_
    exact at_iret (F := eqA ad) (ra := rI) hC dX2_deadHusband_24 rfl (Nat.le_refl 0) (Nat.le_refl 0) rfl
  · refine at_aload_n (j := 0) hC rfl rfl dX2_deadHusband_11 ?_
    refine gf_X2_19 hC dX2_deadHusband_12 ?_
    refine at_iload_n (j := 1) hC rfl rfl dX2_deadHusband_15 ?_
    refine at_iload_n (j := 2) hC rfl rfl dX2_deadHusband_16 ?_
    refine ap_callVI hC hR lk_X2_86 (c_Lv_livesOn τ p0 p1) dX2_deadHusband_17 recX4 rfl rfl ⟨by decide, by decide⟩ (Nat.le_of_ble_eq_true rfl) ⟨Nat.le_refl 0, Nat.le_refl 0⟩ (fun r2 _ => ?_)
    refine ap_if_ne (tgt := 25) hC dX2_deadHusband_20 rfl (fun _ => ?_) (fun _ => ?_)
    · refine at_aload_n (j := 0) hC rfl rfl dX2_deadHusband_25 ?_
      refine gf_X2_19 hC dX2_deadHusband_26 ?_
      refine at_iload_n (j := 1) hC rfl rfl dX2_deadHusband_29 ?_
      refine at_iload_n (j := 2) hC rfl rfl dX2_deadHusband_30 ?_
      refine at_iconst hC ic_2 dX2_deadHusband_31 ?_
      refine ap_callVI hC hR lk_X2_115 (c_Lv_lastOf τ p0 p1 2) dX2_deadHusband_32 recX4 rfl rfl ⟨by decide, by decide⟩ (Nat.le_of_ble_eq_true rfl) ⟨Nat.le_refl 0, Nat.le_refl 0⟩ (fun r3 _ => ?_)
      refine at_istore_n (lv' := [(3, .int r3), (0, .ref 76), (1, .int p0), (2, .int p1)]) hC rfl dX2_deadHusband_35 (by decide) rfl ?_
      refine at_iload_n (j := 0) hC rfl rfl dX2_deadHusband_36 ?_
      refine ap_if_ge (tgt := 42) hC dX2_deadHusband_37 rfl (fun _ => ?_) (fun _ => ?_)
      · refine at_aload_n (j := 1) hC rfl rfl dX2_deadHusband_42 ?_
        refine gf_X2_15 hC dX2_deadHusband_43 ?_
        refine gf_X2_118 hC dX2_deadHusband_46 ?_
        refine at_iload_n (j := 0) hC rfl rfl dX2_deadHusband_49 ?_
        refine ap_iald hC 43 dX2_deadHusband_50 cl_43 (fun v4 => ?_)
        refine at_istore (lv' := [(4, .int v4), (3, .int r3), (0, .ref 76), (1, .int p0), (2, .int p1)]) hC dX2_deadHusband_51 (by decide) rfl ?_
        refine at_aload_n (j := 2) hC rfl rfl dX2_deadHusband_53 ?_
        refine gf_X2_19 hC dX2_deadHusband_54 ?_
        refine gf_X2_59 hC dX2_deadHusband_57 ?_
        refine at_iload (j := 0) hC rfl dX2_deadHusband_60 ?_
        refine ap_iald hC 50 dX2_deadHusband_62 cl_50 (fun v5 => ?_)
        refine at_iload_n (j := 4) hC rfl rfl dX2_deadHusband_63 ?_
        refine ap_icmp_gt (tgt := 82) hC dX2_deadHusband_64 rfl (fun _ => ?_) (fun _ => ?_)
        · refine at_iconst hC ic_m1 dX2_deadHusband_82 ?_
          exact at_iret (F := eqA ad) (ra := rI) hC dX2_deadHusband_83 rfl (Nat.le_refl 0) (Nat.le_refl 0) rfl
        · refine at_aload_n (j := 2) hC rfl rfl dX2_deadHusband_67 ?_
          refine gf_X2_9 hC dX2_deadHusband_68 ?_
          refine at_iload (j := 0) hC rfl dX2_deadHusband_71 ?_
          refine ap_zald hC 77 dX2_deadHusband_73 cl_77 (fun v6 => ?_)
          refine ap_if_eq (tgt := 82) hC dX2_deadHusband_74 rfl (fun _ => ?_) (fun _ => ?_)
          · refine at_iconst hC ic_m1 dX2_deadHusband_82 ?_
            exact at_iret (F := eqA ad) (ra := rI) hC dX2_deadHusband_83 rfl (Nat.le_refl 0) (Nat.le_refl 0) rfl
          · refine at_iload (j := 0) hC rfl dX2_deadHusband_77 ?_
            refine at_goto (tgt := 83) hC dX2_deadHusband_79 rfl ?_
            exact at_iret (F := eqA ad) (ra := rI) hC dX2_deadHusband_83 rfl (Nat.le_refl 0) (Nat.le_refl 0) rfl
      · refine at_iconst hC ic_m1 dX2_deadHusband_40 ?_
        exact at_iret (F := eqA ad) (ra := rI) hC dX2_deadHusband_41 rfl (Nat.le_refl 0) (Nat.le_refl 0) rfl
    · refine at_iconst hC ic_m1 dX2_deadHusband_23 ?_
      exact at_iret (F := eqA ad) (ra := rI) hC dX2_deadHusband_24 rfl (Nat.le_refl 0) (Nat.le_refl 0) rfl
theorem dX2_kindOf_0 : decode cX2_kindOf 0 = .ok (.aload_n 0, 1) := by decide +kernel
theorem dX2_kindOf_1 : decode cX2_kindOf 1 = .ok (.getfield 19, 3) := by decide +kernel
theorem dX2_kindOf_4 : decode cX2_kindOf 4 = .ok (.iload_n 1, 1) := by decide +kernel
theorem dX2_kindOf_5 : decode cX2_kindOf 5 = .ok (.iload_n 2, 1) := by decide +kernel
theorem dX2_kindOf_6 : decode cX2_kindOf 6 = .ok (.invokevirtual 86, 3) := by decide +kernel
theorem dX2_kindOf_9 : decode cX2_kindOf 9 = .ok (.ifCond .ne 6, 3) := by decide +kernel
theorem dX2_kindOf_12 : decode cX2_kindOf 12 = .ok (.bipush (-5), 2) := by decide +kernel
theorem dX2_kindOf_14 : decode cX2_kindOf 14 = .ok (.ireturn, 1) := by decide +kernel
theorem dX2_kindOf_15 : decode cX2_kindOf 15 = .ok (.aload_n 0, 1) := by decide +kernel
theorem dX2_kindOf_16 : decode cX2_kindOf 16 = .ok (.getfield 19, 3) := by decide +kernel
theorem dX2_kindOf_19 : decode cX2_kindOf 19 = .ok (.iload_n 1, 1) := by decide +kernel
theorem dX2_kindOf_20 : decode cX2_kindOf 20 = .ok (.iload_n 2, 1) := by decide +kernel
theorem dX2_kindOf_21 : decode cX2_kindOf 21 = .ok (.invokevirtual 63, 3) := by decide +kernel
theorem dX2_kindOf_24 : decode cX2_kindOf 24 = .ok (.istore_n 3, 1) := by decide +kernel
theorem dX2_kindOf_25 : decode cX2_kindOf 25 = .ok (.iload_n 3, 1) := by decide +kernel
theorem dX2_kindOf_26 : decode cX2_kindOf 26 = .ok (.iconst 2, 1) := by decide +kernel
theorem dX2_kindOf_27 : decode cX2_kindOf 27 = .ok (.if_icmp .ne 6, 3) := by decide +kernel
theorem dX2_kindOf_30 : decode cX2_kindOf 30 = .ok (.bipush 6, 2) := by decide +kernel
theorem dX2_kindOf_32 : decode cX2_kindOf 32 = .ok (.ireturn, 1) := by decide +kernel
theorem dX2_kindOf_33 : decode cX2_kindOf 33 = .ok (.iload_n 3, 1) := by decide +kernel
theorem dX2_kindOf_34 : decode cX2_kindOf 34 = .ok (.iconst 1, 1) := by decide +kernel
theorem dX2_kindOf_35 : decode cX2_kindOf 35 = .ok (.if_icmp .ne 34, 3) := by decide +kernel
theorem dX2_kindOf_38 : decode cX2_kindOf 38 = .ok (.aload_n 0, 1) := by decide +kernel
theorem dX2_kindOf_39 : decode cX2_kindOf 39 = .ok (.getfield 19, 3) := by decide +kernel
theorem dX2_kindOf_42 : decode cX2_kindOf 42 = .ok (.iload_n 1, 1) := by decide +kernel
theorem dX2_kindOf_43 : decode cX2_kindOf 43 = .ok (.iload_n 2, 1) := by decide +kernel
theorem dX2_kindOf_44 : decode cX2_kindOf 44 = .ok (.iconst 2, 1) := by decide +kernel
theorem dX2_kindOf_45 : decode cX2_kindOf 45 = .ok (.invokevirtual 90, 3) := by decide +kernel
theorem dX2_kindOf_48 : decode cX2_kindOf 48 = .ok (.iconst 1, 1) := by decide +kernel
theorem dX2_kindOf_49 : decode cX2_kindOf 49 = .ok (.if_icmp .le 5, 3) := by decide +kernel
theorem dX2_kindOf_52 : decode cX2_kindOf 52 = .ok (.iconst 3, 1) := by decide +kernel
theorem dX2_kindOf_53 : decode cX2_kindOf 53 = .ok (.ireturn, 1) := by decide +kernel
theorem dX2_kindOf_54 : decode cX2_kindOf 54 = .ok (.aload_n 0, 1) := by decide +kernel
theorem dX2_kindOf_55 : decode cX2_kindOf 55 = .ok (.iload_n 1, 1) := by decide +kernel
theorem dX2_kindOf_56 : decode cX2_kindOf 56 = .ok (.iload_n 2, 1) := by decide +kernel
theorem dX2_kindOf_57 : decode cX2_kindOf 57 = .ok (.invokevirtual 93, 3) := by decide +kernel
theorem dX2_kindOf_60 : decode cX2_kindOf 60 = .ok (.ifCond .eq 7, 3) := by decide +kernel
theorem dX2_kindOf_63 : decode cX2_kindOf 63 = .ok (.iconst 2, 1) := by decide +kernel
theorem dX2_kindOf_64 : decode cX2_kindOf 64 = .ok (.goto 4, 3) := by decide +kernel
theorem dX2_kindOf_67 : decode cX2_kindOf 67 = .ok (.iconst 1, 1) := by decide +kernel
theorem dX2_kindOf_68 : decode cX2_kindOf 68 = .ok (.ireturn, 1) := by decide +kernel
theorem dX2_kindOf_69 : decode cX2_kindOf 69 = .ok (.aload_n 0, 1) := by decide +kernel
theorem dX2_kindOf_70 : decode cX2_kindOf 70 = .ok (.iload_n 1, 1) := by decide +kernel
theorem dX2_kindOf_71 : decode cX2_kindOf 71 = .ok (.iload_n 2, 1) := by decide +kernel
theorem dX2_kindOf_72 : decode cX2_kindOf 72 = .ok (.invokevirtual 96, 3) := by decide +kernel
theorem dX2_kindOf_75 : decode cX2_kindOf 75 = .ok (.iconst (-1), 1) := by decide +kernel
theorem dX2_kindOf_76 : decode cX2_kindOf 76 = .ok (.if_icmp .eq 5, 3) := by decide +kernel
theorem dX2_kindOf_79 : decode cX2_kindOf 79 = .ok (.iconst 4, 1) := by decide +kernel
theorem dX2_kindOf_80 : decode cX2_kindOf 80 = .ok (.ireturn, 1) := by decide +kernel
theorem dX2_kindOf_81 : decode cX2_kindOf 81 = .ok (.aload_n 0, 1) := by decide +kernel
theorem dX2_kindOf_82 : decode cX2_kindOf 82 = .ok (.getfield 15, 3) := by decide +kernel
theorem dX2_kindOf_85 : decode cX2_kindOf 85 = .ok (.getfield 99, 3) := by decide +kernel
theorem dX2_kindOf_88 : decode cX2_kindOf 88 = .ok (.iload_n 1, 1) := by decide +kernel
theorem dX2_kindOf_89 : decode cX2_kindOf 89 = .ok (.iaload, 1) := by decide +kernel
theorem dX2_kindOf_90 : decode cX2_kindOf 90 = .ok (.istore 4, 2) := by decide +kernel
theorem dX2_kindOf_92 : decode cX2_kindOf 92 = .ok (.iload 4, 2) := by decide +kernel
theorem dX2_kindOf_94 : decode cX2_kindOf 94 = .ok (.ifCond .lt 31, 3) := by decide +kernel
theorem dX2_kindOf_97 : decode cX2_kindOf 97 = .ok (.aload_n 0, 1) := by decide +kernel
theorem dX2_kindOf_98 : decode cX2_kindOf 98 = .ok (.getfield 19, 3) := by decide +kernel
theorem dX2_kindOf_101 : decode cX2_kindOf 101 = .ok (.getfield 59, 3) := by decide +kernel
theorem dX2_kindOf_104 : decode cX2_kindOf 104 = .ok (.iload 4, 2) := by decide +kernel
theorem dX2_kindOf_106 : decode cX2_kindOf 106 = .ok (.iaload, 1) := by decide +kernel
theorem dX2_kindOf_107 : decode cX2_kindOf 107 = .ok (.iload_n 2, 1) := by decide +kernel
theorem dX2_kindOf_108 : decode cX2_kindOf 108 = .ok (.if_icmp .gt 17, 3) := by decide +kernel
theorem dX2_kindOf_111 : decode cX2_kindOf 111 = .ok (.aload_n 0, 1) := by decide +kernel
theorem dX2_kindOf_112 : decode cX2_kindOf 112 = .ok (.getfield 9, 3) := by decide +kernel
theorem dX2_kindOf_115 : decode cX2_kindOf 115 = .ok (.iload 4, 2) := by decide +kernel
theorem dX2_kindOf_117 : decode cX2_kindOf 117 = .ok (.baload, 1) := by decide +kernel
theorem dX2_kindOf_118 : decode cX2_kindOf 118 = .ok (.ifCond .eq 7, 3) := by decide +kernel
theorem dX2_kindOf_121 : decode cX2_kindOf 121 = .ok (.iconst 1, 1) := by decide +kernel
theorem dX2_kindOf_122 : decode cX2_kindOf 122 = .ok (.goto 4, 3) := by decide +kernel
theorem dX2_kindOf_125 : decode cX2_kindOf 125 = .ok (.iconst 0, 1) := by decide +kernel
theorem dX2_kindOf_126 : decode cX2_kindOf 126 = .ok (.istore 5, 2) := by decide +kernel
theorem dX2_kindOf_128 : decode cX2_kindOf 128 = .ok (.iload 5, 2) := by decide +kernel
theorem dX2_kindOf_130 : decode cX2_kindOf 130 = .ok (.ifCond .eq 27, 3) := by decide +kernel
theorem dX2_kindOf_133 : decode cX2_kindOf 133 = .ok (.aload_n 0, 1) := by decide +kernel
theorem dX2_kindOf_134 : decode cX2_kindOf 134 = .ok (.getfield 15, 3) := by decide +kernel
theorem dX2_kindOf_137 : decode cX2_kindOf 137 = .ok (.iload_n 1, 1) := by decide +kernel
theorem dX2_kindOf_138 : decode cX2_kindOf 138 = .ok (.iload_n 2, 1) := by decide +kernel
theorem dX2_kindOf_139 : decode cX2_kindOf 139 = .ok (.invokevirtual 102, 3) := by decide +kernel
theorem dX2_kindOf_142 : decode cX2_kindOf 142 = .ok (.aload_n 0, 1) := by decide +kernel
theorem dX2_kindOf_143 : decode cX2_kindOf 143 = .ok (.bipush 7, 2) := by decide +kernel
theorem dX2_kindOf_145 : decode cX2_kindOf 145 = .ok (.iconst (-1), 1) := by decide +kernel
theorem dX2_kindOf_146 : decode cX2_kindOf 146 = .ok (.iload_n 2, 1) := by decide +kernel
theorem dX2_kindOf_147 : decode cX2_kindOf 147 = .ok (.invokevirtual 67, 3) := by decide +kernel
theorem dX2_kindOf_150 : decode cX2_kindOf 150 = .ok (.if_icmp .ge 7, 3) := by decide +kernel
theorem dX2_kindOf_153 : decode cX2_kindOf 153 = .ok (.iconst 5, 1) := by decide +kernel
theorem dX2_kindOf_154 : decode cX2_kindOf 154 = .ok (.goto 4, 3) := by decide +kernel
theorem dX2_kindOf_157 : decode cX2_kindOf 157 = .ok (.iconst 0, 1) := by decide +kernel
theorem dX2_kindOf_158 : decode cX2_kindOf 158 = .ok (.ireturn, 1) := by decide +kernel
set_option maxRecDepth 100000 in
theorem t_Cn_kindOf_J126 (hC : CX z ad x cX2_kindOf RX2 6 (some .int)) (hR : x.2.2.1 = rmk 9 0 0) (τ : XS) (a1 : Int32) (a2 : Int32) (s0 : Int32) : AT z x 6 (wX z σ) rI (eqA ad) 0 0 0 0 ad 126 [(0, .ref 76), (1, .int a1), (2, .int a2)] [.int s0] τ (Cn_kindOf_J126 τ a1 a2 s0) := by
  unfold Cn_kindOf_J126
  refine at_istore (lv' := [(5, .int s0), (0, .ref 76), (1, .int a1), (2, .int a2)]) hC dX2_kindOf_126 (by decide) rfl ?_
  refine at_iload (j := 0) hC rfl dX2_kindOf_128 ?_
  refine at_if_eq (tgt := 157) hC dX2_kindOf_130 rfl (fun _ => ?_) (fun _ => ?_)
  · refine at_iconst hC ic_0 dX2_kindOf_157 ?_
    exact at_iret (F := eqA ad) (ra := rI) hC dX2_kindOf_158 rfl (Nat.le_refl 0) (Nat.le_refl 0) rfl
  · refine at_aload_n (j := 1) hC rfl rfl dX2_kindOf_133 ?_
    refine gf_X2_15 hC dX2_kindOf_134 ?_
    refine at_iload_n (j := 2) hC rfl rfl dX2_kindOf_137 ?_
    refine at_iload_n (j := 3) hC rfl rfl dX2_kindOf_138 ?_
    refine at_callVpI hC hR lk_X2_102 (c_Bk_ageOn τ a1 a2) dX2_kindOf_139 recX1 rfl rfl ⟨by decide, by decide⟩ (Nat.le_of_ble_eq_true rfl) ⟨Nat.le_refl 0, Nat.le_refl 0⟩ (fun r5 _ => ?_)
    refine at_aload_n (j := 1) hC rfl rfl dX2_kindOf_142 ?_
    refine at_bipush hC bi_7 dX2_kindOf_143 ?_
    refine at_iconst hC ic_m1 dX2_kindOf_145 ?_
    refine at_iload_n (j := 3) hC rfl rfl dX2_kindOf_146 ?_
    refine at_callVI hC hR lk_X2_67 (c_Cn_comesTo τ 7 (-1) a2) dX2_kindOf_147 recX2 rfl rfl ⟨by decide, by decide⟩ (Nat.le_of_ble_eq_true rfl) ⟨Nat.le_refl 0, Nat.le_refl 0⟩ (fun r6 r6s _ => ?_)
    refine at_icmp_ge (tgt := 157) hC dX2_kindOf_150 rfl (fun _ => ?_) (fun _ => ?_)
    · refine at_iconst hC ic_0 dX2_kindOf_157 ?_
      exact at_iret (F := eqA ad) (ra := rI) hC dX2_kindOf_158 rfl (Nat.le_refl 0) (Nat.le_refl 0) rfl
    · refine at_iconst hC ic_5 dX2_kindOf_153 ?_
      refine at_goto (tgt := 158) hC dX2_kindOf_154 rfl ?_
      exact at_iret (F := eqA ad) (ra := rI) hC dX2_kindOf_158 rfl (Nat.le_refl 0) (Nat.le_refl 0) rfl
set_option maxRecDepth 100000 in
theorem t_Cn_kindOf_J125 (hC : CX z ad x cX2_kindOf RX2 6 (some .int)) (hR : x.2.2.1 = rmk 9 0 0) (τ : XS) (a1 : Int32) (a2 : Int32) : AT z x 6 (wX z σ) rI (eqA ad) 0 0 0 0 ad 125 [(0, .ref 76), (1, .int a1), (2, .int a2)] [] τ (Cn_kindOf_J125 τ a1 a2) := by
  unfold Cn_kindOf_J125
  refine at_iconst hC ic_0 dX2_kindOf_125 ?_
  exact t_Cn_kindOf_J126 hC hR τ a1 a2 0
set_option maxRecDepth 100000 in
theorem c_Cn_kindOf (τ : XS) (p0 : Int32) (p1 : Int32) : Ct z (wX z σ) rI eqA yX2_kindOf cX2_kindOf 6 (some .int) 9 0 0 [.ref 76, .int p0, .int p1] τ (Cn_kindOf τ p0 p1) := by
  refine Ct.of (by decide) (Nat.le_of_ble_eq_true rfl) (fun ad x hC hR _ => ?_)
  show AT z x 6 (wX z σ) rI (eqA ad) 0 0 0 0 ad 0 [(0, .ref 76), (1, .int p0), (2, .int p1)] [] τ (Cn_kindOf τ p0 p1)
  unfold Cn_kindOf
  refine at_aload_n (j := 0) hC rfl rfl dX2_kindOf_0 ?_
  refine gf_X2_19 hC dX2_kindOf_1 ?_
  refine at_iload_n (j := 1) hC rfl rfl dX2_kindOf_4 ?_
  refine at_iload_n (j := 2) hC rfl rfl dX2_kindOf_5 ?_
  refine at_callVpI hC hR lk_X2_86 (c_Lv_livesOn τ p0 p1) dX2_kindOf_6 recX4 rfl rfl ⟨by decide, by decide⟩ (Nat.le_of_ble_eq_true rfl) ⟨Nat.le_refl 0, Nat.le_refl 0⟩ (fun r1 _ => ?_)
  refine at_if_ne (tgt := 15) hC dX2_kindOf_9 rfl (fun _ => ?_) (fun _ => ?_)
  · refine at_aload_n (j := 0) hC rfl rfl dX2_kindOf_15 ?_
    refine gf_X2_19 hC dX2_kindOf_16 ?_
    refine at_iload_n (j := 1) hC rfl rfl dX2_kindOf_19 ?_
    refine at_iload_n (j := 2) hC rfl rfl dX2_kindOf_20 ?_
    refine at_callVpI hC hR lk_X2_63 (c_Lv_standing τ p0 p1) dX2_kindOf_21 recX4 rfl rfl ⟨by decide, by decide⟩ (Nat.le_of_ble_eq_true rfl) ⟨Nat.le_refl 0, Nat.le_refl 0⟩ (fun r2 _ => ?_)
    refine at_istore_n (lv' := [(3, .int r2), (0, .ref 76), (1, .int p0), (2, .int p1)]) hC rfl dX2_kindOf_24 (by decide) rfl ?_
    refine at_iload_n (j := 0) hC rfl rfl dX2_kindOf_25 ?_
    refine at_iconst hC ic_2 dX2_kindOf_26 ?_
    refine at_icmp_ne (tgt := 33) hC dX2_kindOf_27 rfl (fun _ => ?_) (fun _ => ?_)
    · refine at_iload_n (j := 0) hC rfl rfl dX2_kindOf_33 ?_
      refine at_iconst hC ic_1 dX2_kindOf_34 ?_
      refine at_icmp_ne (tgt := 69) hC dX2_kindOf_35 rfl (fun _ => ?_) (fun _ => ?_)
      · refine at_aload_n (j := 1) hC rfl rfl dX2_kindOf_69 ?_
        refine at_iload_n (j := 2) hC rfl rfl dX2_kindOf_70 ?_
        refine at_iload_n (j := 3) hC rfl rfl dX2_kindOf_71 ?_
        refine at_callVpI hC hR lk_X2_96 (c_Cn_deadHusband τ p0 p1) dX2_kindOf_72 recX2 rfl rfl ⟨by decide, by decide⟩ (Nat.le_of_ble_eq_true rfl) ⟨Nat.le_refl 0, Nat.le_refl 0⟩ (fun r3 _ => ?_)
        refine at_iconst hC ic_m1 dX2_kindOf_75 ?_
        refine at_icmp_eq (tgt := 81) hC dX2_kindOf_76 rfl (fun _ => ?_) (fun _ => ?_)
        · refine at_aload_n (j := 1) hC rfl rfl dX2_kindOf_81 ?_
          refine gf_X2_15 hC dX2_kindOf_82 ?_
          refine gf_X2_99 hC dX2_kindOf_85 ?_
          refine at_iload_n (j := 2) hC rfl rfl dX2_kindOf_88 ?_
          refine at_iald hC 40 dX2_kindOf_89 cl_40 (fun v4 => ?_)
          refine at_istore (lv' := [(4, .int v4), (3, .int r2), (0, .ref 76), (1, .int p0), (2, .int p1)]) hC dX2_kindOf_90 (by decide) rfl ?_
          refine at_iload (j := 0) hC rfl dX2_kindOf_92 ?_
          refine at_if_lt (tgt := 125) hC dX2_kindOf_94 rfl (fun _ => ?_) (fun _ => ?_)
          · refine at_drop (lv' := [(0, .ref 76), (1, .int p0), (2, .int p1)]) [2, 3, 4] rfl ?_
            exact t_Cn_kindOf_J125 hC hR τ p0 p1
          · refine at_aload_n (j := 2) hC rfl rfl dX2_kindOf_97 ?_
            refine gf_X2_19 hC dX2_kindOf_98 ?_
            refine gf_X2_59 hC dX2_kindOf_101 ?_
            refine at_iload (j := 0) hC rfl dX2_kindOf_104 ?_
            refine at_iald hC 50 dX2_kindOf_106 cl_50 (fun v7 => ?_)
            refine at_iload_n (j := 4) hC rfl rfl dX2_kindOf_107 ?_
            refine at_icmp_gt (tgt := 125) hC dX2_kindOf_108 rfl (fun _ => ?_) (fun _ => ?_)
            · refine at_drop (lv' := [(0, .ref 76), (1, .int p0), (2, .int p1)]) [2, 3, 4] rfl ?_
              exact t_Cn_kindOf_J125 hC hR τ p0 p1
            · refine at_aload_n (j := 2) hC rfl rfl dX2_kindOf_111 ?_
              refine gf_X2_9 hC dX2_kindOf_112 ?_
              refine at_iload (j := 0) hC rfl dX2_kindOf_115 ?_
              refine at_zald hC 77 dX2_kindOf_117 cl_77 (fun v8 => ?_)
              refine at_if_eq (tgt := 125) hC dX2_kindOf_118 rfl (fun _ => ?_) (fun _ => ?_)
              · refine at_drop (lv' := [(0, .ref 76), (1, .int p0), (2, .int p1)]) [2, 3, 4] rfl ?_
                exact t_Cn_kindOf_J125 hC hR τ p0 p1
              · refine at_iconst hC ic_1 dX2_kindOf_121 ?_
                refine at_goto (tgt := 126) hC dX2_kindOf_122 rfl ?_
                refine at_drop (lv' := [(0, .ref 76), (1, .int p0), (2, .int p1)]) [2, 3, 4] rfl ?_
                exact t_Cn_kindOf_J126 hC hR τ p0 p1 1
        · refine at_iconst hC ic_4 dX2_kindOf_79 ?_
          exact at_iret (F := eqA ad) (ra := rI) hC dX2_kindOf_80 rfl (Nat.le_refl 0) (Nat.le_refl 0) rfl
      · refine at_aload_n (j := 1) hC rfl rfl dX2_kindOf_38 ?_
        refine gf_X2_19 hC dX2_kindOf_39 ?_
        refine at_iload_n (j := 2) hC rfl rfl dX2_kindOf_42 ?_
        refine at_iload_n (j := 3) hC rfl rfl dX2_kindOf_43 ?_
        refine at_iconst hC ic_2 dX2_kindOf_44 ?_
        refine at_callVpI hC hR lk_X2_90 (c_Lv_howMany τ p0 p1 2) dX2_kindOf_45 recX4 rfl rfl ⟨by decide, by decide⟩ (Nat.le_of_ble_eq_true rfl) ⟨Nat.le_refl 0, Nat.le_refl 0⟩ (fun r9 _ => ?_)
        refine at_iconst hC ic_1 dX2_kindOf_48 ?_
        refine at_icmp_le (tgt := 54) hC dX2_kindOf_49 rfl (fun _ => ?_) (fun _ => ?_)
        · refine at_aload_n (j := 1) hC rfl rfl dX2_kindOf_54 ?_
          refine at_iload_n (j := 2) hC rfl rfl dX2_kindOf_55 ?_
          refine at_iload_n (j := 3) hC rfl rfl dX2_kindOf_56 ?_
          refine at_callVI hC hR lk_X2_93 (c_Cn_isLate τ p0 p1) dX2_kindOf_57 recX2 rfl rfl ⟨by decide, by decide⟩ (Nat.le_of_ble_eq_true rfl) ⟨Nat.le_refl 0, Nat.le_refl 0⟩ (fun r10 r10s _ => ?_)
          refine at_if_eq (tgt := 67) hC dX2_kindOf_60 rfl (fun _ => ?_) (fun _ => ?_)
          · refine at_iconst hC ic_1 dX2_kindOf_67 ?_
            exact at_iret (F := eqA ad) (ra := rI) hC dX2_kindOf_68 rfl (Nat.le_refl 0) (Nat.le_refl 0) rfl
          · refine at_iconst hC ic_2 dX2_kindOf_63 ?_
            refine at_goto (tgt := 68) hC dX2_kindOf_64 rfl ?_
            exact at_iret (F := eqA ad) (ra := rI) hC dX2_kindOf_68 rfl (Nat.le_refl 0) (Nat.le_refl 0) rfl
        · refine at_iconst hC ic_3 dX2_kindOf_52 ?_
          exact at_iret (F := eqA ad) (ra := rI) hC dX2_kindOf_53 rfl (Nat.le_refl 0) (Nat.le_refl 0) rfl
    · refine at_bipush hC bi_6 dX2_kindOf_30 ?_
      exact at_iret (F := eqA ad) (ra := rI) hC dX2_kindOf_32 rfl (Nat.le_refl 0) (Nat.le_refl 0) rfl
  · refine at_bipush hC bi_m5 dX2_kindOf_12 ?_
    exact at_iret (F := eqA ad) (ra := rI) hC dX2_kindOf_14 rfl (Nat.le_refl 0) (Nat.le_refl 0) rfl
end G
