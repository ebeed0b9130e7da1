section G
variable {z : ZZ} {x : XX} {ad : Nat → Nat} {σ : MS}
theorem dX4_isTaken_0 : decode cX4_isTaken 0 = .ok (.iconst 0, 1) := by decide +kernel
theorem dX4_isTaken_1 : decode cX4_isTaken 1 = .ok (.istore_n 3, 1) := by decide +kernel
theorem dX4_isTaken_2 : decode cX4_isTaken 2 = .ok (.iload_n 3, 1) := by decide +kernel
theorem dX4_isTaken_3 : decode cX4_isTaken 3 = .ok (.aload_n 0, 1) := by decide +kernel
theorem dX4_isTaken_4 : decode cX4_isTaken 4 = .ok (.getfield 24, 3) := by decide +kernel
theorem dX4_isTaken_7 : decode cX4_isTaken 7 = .ok (.getfield 82, 3) := by decide +kernel
theorem dX4_isTaken_10 : decode cX4_isTaken 10 = .ok (.if_icmp .ge 46, 3) := by decide +kernel
theorem dX4_isTaken_13 : decode cX4_isTaken 13 = .ok (.aload_n 0, 1) := by decide +kernel
theorem dX4_isTaken_14 : decode cX4_isTaken 14 = .ok (.getfield 15, 3) := by decide +kernel
theorem dX4_isTaken_17 : decode cX4_isTaken 17 = .ok (.iload_n 3, 1) := by decide +kernel
theorem dX4_isTaken_18 : decode cX4_isTaken 18 = .ok (.iaload, 1) := by decide +kernel
theorem dX4_isTaken_19 : decode cX4_isTaken 19 = .ok (.aload_n 0, 1) := by decide +kernel
theorem dX4_isTaken_20 : decode cX4_isTaken 20 = .ok (.getfield 18, 3) := by decide +kernel
theorem dX4_isTaken_23 : decode cX4_isTaken 23 = .ok (.iload_n 3, 1) := by decide +kernel
theorem dX4_isTaken_24 : decode cX4_isTaken 24 = .ok (.iaload, 1) := by decide +kernel
theorem dX4_isTaken_25 : decode cX4_isTaken 25 = .ok (.if_icmp .ge 25, 3) := by decide +kernel
theorem dX4_isTaken_28 : decode cX4_isTaken 28 = .ok (.aload_n 0, 1) := by decide +kernel
theorem dX4_isTaken_29 : decode cX4_isTaken 29 = .ok (.iload_n 3, 1) := by decide +kernel
theorem dX4_isTaken_30 : decode cX4_isTaken 30 = .ok (.iload_n 2, 1) := by decide +kernel
theorem dX4_isTaken_31 : decode cX4_isTaken 31 = .ok (.invokevirtual 85, 3) := by decide +kernel
theorem dX4_isTaken_34 : decode cX4_isTaken 34 = .ok (.iload_n 1, 1) := by decide +kernel
theorem dX4_isTaken_35 : decode cX4_isTaken 35 = .ok (.if_icmp .ne 15, 3) := by decide +kernel
theorem dX4_isTaken_38 : decode cX4_isTaken 38 = .ok (.aload_n 0, 1) := by decide +kernel
theorem dX4_isTaken_39 : decode cX4_isTaken 39 = .ok (.iload_n 3, 1) := by decide +kernel
theorem dX4_isTaken_40 : decode cX4_isTaken 40 = .ok (.iload_n 2, 1) := by decide +kernel
theorem dX4_isTaken_41 : decode cX4_isTaken 41 = .ok (.invokevirtual 89, 3) := by decide +kernel
theorem dX4_isTaken_44 : decode cX4_isTaken 44 = .ok (.iconst 1, 1) := by decide +kernel
theorem dX4_isTaken_45 : decode cX4_isTaken 45 = .ok (.if_icmp .ne 5, 3) := by decide +kernel
theorem dX4_isTaken_48 : decode cX4_isTaken 48 = .ok (.iconst 1, 1) := by decide +kernel
theorem dX4_isTaken_49 : decode cX4_isTaken 49 = .ok (.ireturn, 1) := by decide +kernel
theorem dX4_isTaken_50 : decode cX4_isTaken 50 = .ok (.iinc 3 1, 3) := by decide +kernel
theorem dX4_isTaken_53 : decode cX4_isTaken 53 = .ok (.goto (-51), 3) := by decide +kernel
theorem dX4_isTaken_56 : decode cX4_isTaken 56 = .ok (.iconst 0, 1) := by decide +kernel
theorem dX4_isTaken_57 : decode cX4_isTaken 57 = .ok (.ireturn, 1) := by decide +kernel
set_option maxRecDepth 100000 in
theorem t_Lv_isTaken_J50 (hC : CX z ad x cX4_isTaken RX4 4 (some .boolean)) (hR : x.2.2.1 = rmk 3 0 0) (τ : XS) (k_2 : Int32 → Int32 → Int32 → Option Int32) (hk_2 : ∀ (a1 : Int32) (a2 : Int32) (a3 : Int32), AT z x 4 (wX z σ) rI (eqA ad) 0 0 0 0 ad 2 [(0, .ref 49), (1, .int a1), (2, .int a2), (3, .int a3)] [] τ ((k_2 a1 a2 a3).map fun r => (r, τ))) (a1 : Int32) (a2 : Int32) (a3 : Int32) : AT z x 4 (wX z σ) rI (eqA ad) 0 0 0 0 ad 50 [(0, .ref 49), (1, .int a1), (2, .int a2), (3, .int a3)] [] τ ((Lv_isTaken_J50 k_2 τ a1 a2 a3).map fun r => (r, τ)) := by
  unfold Lv_isTaken_J50
  refine at_iinc (j := 3) (v := a3 + 1) (lv' := [(3, .int (a3 + 1)), (0, .ref 49), (1, .int a1), (2, .int a2)]) hC dX4_isTaken_50 rfl rfl (by decide) rfl ?_
  refine at_goto (tgt := 2) hC dX4_isTaken_53 rfl ?_
  refine at_drop (lv' := [(0, .ref 49), (1, .int a1), (2, .int a2), (3, .int (a3 + 1))]) [1, 2, 3, 0] rfl ?_
  exact hk_2 a1 a2 (a3 + 1)
set_option maxRecDepth 100000 in
theorem t_Lv_isTaken_L2 (hC : CX z ad x cX4_isTaken RX4 4 (some .boolean)) (hR : x.2.2.1 = rmk 3 0 0) (τ : XS) (n : Nat) (a1 : Int32) (a2 : Int32) (a3 : Int32) : AT z x 4 (wX z σ) rI (eqA ad) 0 0 0 0 ad 2 [(0, .ref 49), (1, .int a1), (2, .int a2), (3, .int a3)] [] τ ((Lv_isTaken_L2 n τ a1 a2 a3).map fun r => (r, τ)) := by
  revert a1 a2 a3
  show ∀ (a1 : Int32) (a2 : Int32) (a3 : Int32), AT z x 4 (wX z σ) rI (eqA ad) 0 0 0 0 ad 2 [(0, .ref 49), (1, .int a1), (2, .int a2), (3, .int a3)] [] τ ((Lv_isTaken_L2_r τ n a1 a2 a3).map fun r => (r, τ))
  induction n with
  | zero => intro a1 a2 a3; exact ap_none
  | succ n hk_2 =>
    intro a1 a2 a3
    unfold Lv_isTaken_L2_r
    refine at_iload_n (j := 3) hC rfl rfl dX4_isTaken_2 ?_
    refine at_aload_n (j := 0) hC rfl rfl dX4_isTaken_3 ?_
    refine gf_X4_24 hC dX4_isTaken_4 ?_
    refine gf_X4_82 hC dX4_isTaken_7 ?_
    refine ap_icmp_ge (tgt := 56) hC dX4_isTaken_10 rfl (fun _ => ?_) (fun _ => ?_)
    · refine at_iconst hC ic_0 dX4_isTaken_56 ?_
      exact at_zret (F := eqA ad) (ra := rI) hC nb0 dX4_isTaken_57 rfl (Nat.le_refl 0) (Nat.le_refl 0) rfl
    · refine at_aload_n (j := 0) hC rfl rfl dX4_isTaken_13 ?_
      refine gf_X4_15 hC dX4_isTaken_14 ?_
      refine at_iload_n (j := 3) hC rfl rfl dX4_isTaken_17 ?_
      refine ap_iald hC 51 dX4_isTaken_18 cl_51 (fun v1 => ?_)
      refine at_aload_n (j := 0) hC rfl rfl dX4_isTaken_19 ?_
      refine gf_X4_18 hC dX4_isTaken_20 ?_
      refine at_iload_n (j := 3) hC rfl rfl dX4_isTaken_23 ?_
      refine ap_iald hC 52 dX4_isTaken_24 cl_52 (fun v2 => ?_)
      refine ap_icmp_ge (tgt := 50) hC dX4_isTaken_25 rfl (fun _ => ?_) (fun _ => ?_)
      · exact t_Lv_isTaken_J50 hC hR τ (Lv_isTaken_L2_r τ n) hk_2 a1 a2 a3
      · refine at_aload_n (j := 0) hC rfl rfl dX4_isTaken_28 ?_
        refine at_iload_n (j := 3) hC rfl rfl dX4_isTaken_29 ?_
        refine at_iload_n (j := 2) hC rfl rfl dX4_isTaken_30 ?_
        refine ap_callVI hC hR lk_X4_85 (c_Lv_seatOf τ a3 a2) dX4_isTaken_31 recX4 rfl rfl ⟨by decide, by decide⟩ (Nat.le_of_ble_eq_true rfl) ⟨Nat.le_refl 0, Nat.le_refl 0⟩ (fun r3 _ => ?_)
        refine at_iload_n (j := 1) hC rfl rfl dX4_isTaken_34 ?_
        refine ap_icmp_ne (tgt := 50) hC dX4_isTaken_35 rfl (fun _ => ?_) (fun _ => ?_)
        · exact t_Lv_isTaken_J50 hC hR τ (Lv_isTaken_L2_r τ n) hk_2 a1 a2 a3
        · refine at_aload_n (j := 0) hC rfl rfl dX4_isTaken_38 ?_
          refine at_iload_n (j := 3) hC rfl rfl dX4_isTaken_39 ?_
          refine at_iload_n (j := 2) hC rfl rfl dX4_isTaken_40 ?_
          refine ap_callVI hC hR lk_X4_89 (c_Lv_standing τ a3 a2) dX4_isTaken_41 recX4 rfl rfl ⟨by decide, by decide⟩ (Nat.le_of_ble_eq_true rfl) ⟨Nat.le_refl 0, Nat.le_refl 0⟩ (fun r4 _ => ?_)
          refine at_iconst hC ic_1 dX4_isTaken_44 ?_
          refine ap_icmp_ne (tgt := 50) hC dX4_isTaken_45 rfl (fun _ => ?_) (fun _ => ?_)
          · exact t_Lv_isTaken_J50 hC hR τ (Lv_isTaken_L2_r τ n) hk_2 a1 a2 a3
          · refine at_iconst hC ic_1 dX4_isTaken_48 ?_
            exact at_zret (F := eqA ad) (ra := rI) hC nb1 dX4_isTaken_49 rfl (Nat.le_refl 0) (Nat.le_refl 0) rfl
set_option maxRecDepth 100000 in
theorem c_Lv_isTaken (τ : XS) (p0 : Int32) (p1 : Int32) : Ct z (wX z σ) rI eqA yX4_isTaken cX4_isTaken 4 (some .boolean) 3 0 0 [.ref 49, .int p0, .int p1] τ ((Lv_isTaken τ p0 p1).map fun r => (r, τ)) := by
  refine Ct.of (by decide) (Nat.le_of_ble_eq_true rfl) (fun ad x hC hR _ => ?_)
  show AT z x 4 (wX z σ) rI (eqA ad) 0 0 0 0 ad 0 [(0, .ref 49), (1, .int p0), (2, .int p1)] [] τ ((Lv_isTaken τ p0 p1).map fun r => (r, τ))
  unfold Lv_isTaken
  refine at_iconst hC ic_0 dX4_isTaken_0 ?_
  refine at_istore_n (lv' := [(3, .int 0), (0, .ref 49), (1, .int p0), (2, .int p1)]) hC rfl dX4_isTaken_1 (by decide) rfl ?_
  refine at_drop (lv' := [(0, .ref 49), (1, .int p0), (2, .int p1), (3, .int 0)]) [1, 2, 3, 0] rfl ?_
  exact t_Lv_isTaken_L2 hC hR τ 100000 p0 p1 0
theorem dX4_diedAtAge_0 : decode cX4_diedAtAge 0 = .ok (.iconst 0, 1) := by decide +kernel
theorem dX4_diedAtAge_1 : decode cX4_diedAtAge 1 = .ok (.istore_n 3, 1) := by decide +kernel
theorem dX4_diedAtAge_2 : decode cX4_diedAtAge 2 = .ok (.iconst 0, 1) := by decide +kernel
theorem dX4_diedAtAge_3 : decode cX4_diedAtAge 3 = .ok (.istore 4, 2) := by decide +kernel
theorem dX4_diedAtAge_5 : decode cX4_diedAtAge 5 = .ok (.iload 4, 2) := by decide +kernel
theorem dX4_diedAtAge_7 : decode cX4_diedAtAge 7 = .ok (.aload_n 0, 1) := by decide +kernel
theorem dX4_diedAtAge_8 : decode cX4_diedAtAge 8 = .ok (.getfield 24, 3) := by decide +kernel
theorem dX4_diedAtAge_11 : decode cX4_diedAtAge 11 = .ok (.getfield 82, 3) := by decide +kernel
theorem dX4_diedAtAge_14 : decode cX4_diedAtAge 14 = .ok (.if_icmp .ge 43, 3) := by decide +kernel
theorem dX4_diedAtAge_17 : decode cX4_diedAtAge 17 = .ok (.aload_n 0, 1) := by decide +kernel
theorem dX4_diedAtAge_18 : decode cX4_diedAtAge 18 = .ok (.getfield 9, 3) := by decide +kernel
theorem dX4_diedAtAge_21 : decode cX4_diedAtAge 21 = .ok (.iload 4, 2) := by decide +kernel
theorem dX4_diedAtAge_23 : decode cX4_diedAtAge 23 = .ok (.iaload, 1) := by decide +kernel
theorem dX4_diedAtAge_24 : decode cX4_diedAtAge 24 = .ok (.iload_n 2, 1) := by decide +kernel
theorem dX4_diedAtAge_25 : decode cX4_diedAtAge 25 = .ok (.if_icmp .gt 26, 3) := by decide +kernel
theorem dX4_diedAtAge_28 : decode cX4_diedAtAge 28 = .ok (.aload_n 0, 1) := by decide +kernel
theorem dX4_diedAtAge_29 : decode cX4_diedAtAge 29 = .ok (.getfield 24, 3) := by decide +kernel
theorem dX4_diedAtAge_32 : decode cX4_diedAtAge 32 = .ok (.iload 4, 2) := by decide +kernel
theorem dX4_diedAtAge_34 : decode cX4_diedAtAge 34 = .ok (.aload_n 0, 1) := by decide +kernel
theorem dX4_diedAtAge_35 : decode cX4_diedAtAge 35 = .ok (.getfield 9, 3) := by decide +kernel
theorem dX4_diedAtAge_38 : decode cX4_diedAtAge 38 = .ok (.iload 4, 2) := by decide +kernel
theorem dX4_diedAtAge_40 : decode cX4_diedAtAge 40 = .ok (.iaload, 1) := by decide +kernel
theorem dX4_diedAtAge_41 : decode cX4_diedAtAge 41 = .ok (.invokevirtual 92, 3) := by decide +kernel
theorem dX4_diedAtAge_44 : decode cX4_diedAtAge 44 = .ok (.iload_n 1, 1) := by decide +kernel
theorem dX4_diedAtAge_45 : decode cX4_diedAtAge 45 = .ok (.if_icmp .ne 6, 3) := by decide +kernel
theorem dX4_diedAtAge_48 : decode cX4_diedAtAge 48 = .ok (.iinc 3 1, 3) := by decide +kernel
theorem dX4_diedAtAge_51 : decode cX4_diedAtAge 51 = .ok (.iinc 4 1, 3) := by decide +kernel
theorem dX4_diedAtAge_54 : decode cX4_diedAtAge 54 = .ok (.goto (-49), 3) := by decide +kernel
theorem dX4_diedAtAge_57 : decode cX4_diedAtAge 57 = .ok (.iload_n 3, 1) := by decide +kernel
theorem dX4_diedAtAge_58 : decode cX4_diedAtAge 58 = .ok (.ireturn, 1) := by decide +kernel
set_option maxRecDepth 100000 in
theorem t_Lv_diedAtAge_J51 (hC : CX z ad x cX4_diedAtAge RX4 5 (some .int)) (hR : x.2.2.1 = rmk 6 0 0) (τ : XS) (k_5 : Int32 → Int32 → Int32 → Int32 → Option Int32) (hk_5 : ∀ (a1 : Int32) (a2 : Int32) (a3 : Int32) (a4 : Int32), AT z x 5 (wX z σ) rI (eqA ad) 0 0 0 0 ad 5 [(0, .ref 49), (1, .int a1), (2, .int a2), (3, .int a3), (4, .int a4)] [] τ ((k_5 a1 a2 a3 a4).map fun r => (r, τ))) (a1 : Int32) (a2 : Int32) (a3 : Int32) (a4 : Int32) : AT z x 5 (wX z σ) rI (eqA ad) 0 0 0 0 ad 51 [(0, .ref 49), (1, .int a1), (2, .int a2), (3, .int a3), (4, .int a4)] [] τ ((Lv_diedAtAge_J51 k_5 τ a1 a2 a3 a4).map fun r => (r, τ)) := by
  unfold Lv_diedAtAge_J51
  refine at_iinc (j := 4) (v := a4 + 1) (lv' := [(4, .int (a4 + 1)), (0, .ref 49), (1, .int a1), (2, .int a2), (3, .int a3)]) hC dX4_diedAtAge_51 rfl rfl (by decide) rfl ?_
  refine at_goto (tgt := 5) hC dX4_diedAtAge_54 rfl ?_
  refine at_drop (lv' := [(0, .ref 49), (1, .int a1), (2, .int a2), (3, .int a3), (4, .int (a4 + 1))]) [1, 2, 3, 4, 0] rfl ?_
  exact hk_5 a1 a2 a3 (a4 + 1)
set_option maxRecDepth 100000 in
theorem t_Lv_diedAtAge_L5 (hC : CX z ad x cX4_diedAtAge RX4 5 (some .int)) (hR : x.2.2.1 = rmk 6 0 0) (τ : XS) (n : Nat) (a1 : Int32) (a2 : Int32) (a3 : Int32) (a4 : Int32) : AT z x 5 (wX z σ) rI (eqA ad) 0 0 0 0 ad 5 [(0, .ref 49), (1, .int a1), (2, .int a2), (3, .int a3), (4, .int a4)] [] τ ((Lv_diedAtAge_L5 n τ a1 a2 a3 a4).map fun r => (r, τ)) := by
  revert a1 a2 a3 a4
  show ∀ (a1 : Int32) (a2 : Int32) (a3 : Int32) (a4 : Int32), AT z x 5 (wX z σ) rI (eqA ad) 0 0 0 0 ad 5 [(0, .ref 49), (1, .int a1), (2, .int a2), (3, .int a3), (4, .int a4)] [] τ ((Lv_diedAtAge_L5_r τ n a1 a2 a3 a4).map fun r => (r, τ))
  induction n with
  | zero => intro a1 a2 a3 a4; exact ap_none
  | succ n hk_5 =>
    intro a1 a2 a3 a4
    unfold Lv_diedAtAge_L5_r
    refine at_iload (j := 4) hC rfl dX4_diedAtAge_5 ?_
    refine at_aload_n (j := 0) hC rfl rfl dX4_diedAtAge_7 ?_
    refine gf_X4_24 hC dX4_diedAtAge_8 ?_
    refine gf_X4_82 hC dX4_diedAtAge_11 ?_
    refine ap_icmp_ge (tgt := 57) hC dX4_diedAtAge_14 rfl (fun _ => ?_) (fun _ => ?_)
    · refine at_iload_n (j := 3) hC rfl rfl dX4_diedAtAge_57 ?_
      exact at_iret (F := eqA ad) (ra := rI) hC dX4_diedAtAge_58 rfl (Nat.le_refl 0) (Nat.le_refl 0) rfl
    · refine at_aload_n (j := 0) hC rfl rfl dX4_diedAtAge_17 ?_
      refine gf_X4_9 hC dX4_diedAtAge_18 ?_
      refine at_iload (j := 4) hC rfl dX4_diedAtAge_21 ?_
      refine ap_iald hC 50 dX4_diedAtAge_23 cl_50 (fun v1 => ?_)
      refine at_iload_n (j := 2) hC rfl rfl dX4_diedAtAge_24 ?_
      refine ap_icmp_gt (tgt := 51) hC dX4_diedAtAge_25 rfl (fun _ => ?_) (fun _ => ?_)
      · exact t_Lv_diedAtAge_J51 hC hR τ (Lv_diedAtAge_L5_r τ n) hk_5 a1 a2 a3 a4
      · refine at_aload_n (j := 0) hC rfl rfl dX4_diedAtAge_28 ?_
        refine gf_X4_24 hC dX4_diedAtAge_29 ?_
        refine at_iload (j := 4) hC rfl dX4_diedAtAge_32 ?_
        refine at_aload_n (j := 0) hC rfl rfl dX4_diedAtAge_34 ?_
        refine gf_X4_9 hC dX4_diedAtAge_35 ?_
        refine at_iload (j := 4) hC rfl dX4_diedAtAge_38 ?_
        refine ap_iald hC 50 dX4_diedAtAge_40 cl_50 (fun v2 => ?_)
        refine ap_callVI hC hR lk_X4_92 (c_Bk_ageOn τ a4 v2) dX4_diedAtAge_41 recX1 rfl rfl ⟨by decide, by decide⟩ (Nat.le_of_ble_eq_true rfl) ⟨Nat.le_refl 0, Nat.le_refl 0⟩ (fun r3 _ => ?_)
        refine at_iload_n (j := 1) hC rfl rfl dX4_diedAtAge_44 ?_
        refine ap_icmp_ne (tgt := 51) hC dX4_diedAtAge_45 rfl (fun _ => ?_) (fun _ => ?_)
        · exact t_Lv_diedAtAge_J51 hC hR τ (Lv_diedAtAge_L5_r τ n) hk_5 a1 a2 a3 a4
        · refine at_iinc (j := 3) (v := a3 + 1) (lv' := [(3, .int (a3 + 1)), (0, .ref 49), (1, .int a1), (2, .int a2), (4, .int a4)]) hC dX4_diedAtAge_48 rfl rfl (by decide) rfl ?_
          refine at_drop (lv' := [(0, .ref 49), (1, .int a1), (2, .int a2), (3, .int (a3 + 1)), (4, .int a4)]) [1, 2, 3, 0, 4] rfl ?_
          exact t_Lv_diedAtAge_J51 hC hR τ (Lv_diedAtAge_L5_r τ n) hk_5 a1 a2 (a3 + 1) a4
set_option maxRecDepth 100000 in
theorem c_Lv_diedAtAge (τ : XS) (p0 : Int32) (p1 : Int32) : Ct z (wX z σ) rI eqA yX4_diedAtAge cX4_diedAtAge 5 (some .int) 6 0 0 [.ref 49, .int p0, .int p1] τ ((Lv_diedAtAge τ p0 p1).map fun r => (r, τ)) := by
  refine Ct.of (by decide) (Nat.le_of_ble_eq_true rfl) (fun ad x hC hR _ => ?_)
  show AT z x 5 (wX z σ) rI (eqA ad) 0 0 0 0 ad 0 [(0, .ref 49), (1, .int p0), (2, .int p1)] [] τ ((Lv_diedAtAge τ p0 p1).map fun r => (r, τ))
  unfold Lv_diedAtAge
  refine at_iconst hC ic_0 dX4_diedAtAge_0 ?_
  refine at_istore_n (lv' := [(3, .int 0), (0, .ref 49), (1, .int p0), (2, .int p1)]) hC rfl dX4_diedAtAge_1 (by decide) rfl ?_
  refine at_iconst hC ic_0 dX4_diedAtAge_2 ?_
  refine at_istore (lv' := [(4, .int 0), (3, .int 0), (0, .ref 49), (1, .int p0), (2, .int p1)]) hC dX4_diedAtAge_3 (by decide) rfl ?_
  refine at_drop (lv' := [(0, .ref 49), (1, .int p0), (2, .int p1), (3, .int 0), (4, .int 0)]) [2, 3, 4, 1, 0] rfl ?_
  exact t_Lv_diedAtAge_L5 hC hR τ 100000 p0 p1 0 0
theorem dX4_livedThrough_0 : decode cX4_livedThrough 0 = .ok (.iconst 0, 1) := by decide +kernel
theorem dX4_livedThrough_1 : decode cX4_livedThrough 1 = .ok (.istore_n 3, 1) := by decide +kernel
theorem dX4_livedThrough_2 : decode cX4_livedThrough 2 = .ok (.iconst 0, 1) := by decide +kernel
theorem dX4_livedThrough_3 : decode cX4_livedThrough 3 = .ok (.istore 4, 2) := by decide +kernel
theorem dX4_livedThrough_5 : decode cX4_livedThrough 5 = .ok (.iload 4, 2) := by decide +kernel
theorem dX4_livedThrough_7 : decode cX4_livedThrough 7 = .ok (.aload_n 0, 1) := by decide +kernel
theorem dX4_livedThrough_8 : decode cX4_livedThrough 8 = .ok (.getfield 24, 3) := by decide +kernel
theorem dX4_livedThrough_11 : decode cX4_livedThrough 11 = .ok (.getfield 82, 3) := by decide +kernel
theorem dX4_livedThrough_14 : decode cX4_livedThrough 14 = .ok (.if_icmp .ge 51, 3) := by decide +kernel
theorem dX4_livedThrough_17 : decode cX4_livedThrough 17 = .ok (.aload_n 0, 1) := by decide +kernel
theorem dX4_livedThrough_18 : decode cX4_livedThrough 18 = .ok (.getfield 24, 3) := by decide +kernel
theorem dX4_livedThrough_21 : decode cX4_livedThrough 21 = .ok (.getfield 66, 3) := by decide +kernel
theorem dX4_livedThrough_24 : decode cX4_livedThrough 24 = .ok (.iload 4, 2) := by decide +kernel
theorem dX4_livedThrough_26 : decode cX4_livedThrough 26 = .ok (.iaload, 1) := by decide +kernel
theorem dX4_livedThrough_27 : decode cX4_livedThrough 27 = .ok (.bipush 100, 2) := by decide +kernel
theorem dX4_livedThrough_29 : decode cX4_livedThrough 29 = .ok (.iload_n 1, 1) := by decide +kernel
theorem dX4_livedThrough_30 : decode cX4_livedThrough 30 = .ok (.imul, 1) := by decide +kernel
theorem dX4_livedThrough_31 : decode cX4_livedThrough 31 = .ok (.iadd, 1) := by decide +kernel
theorem dX4_livedThrough_32 : decode cX4_livedThrough 32 = .ok (.bipush 100, 2) := by decide +kernel
theorem dX4_livedThrough_34 : decode cX4_livedThrough 34 = .ok (.iadd, 1) := by decide +kernel
theorem dX4_livedThrough_35 : decode cX4_livedThrough 35 = .ok (.iconst 1, 1) := by decide +kernel
theorem dX4_livedThrough_36 : decode cX4_livedThrough 36 = .ok (.isub, 1) := by decide +kernel
theorem dX4_livedThrough_37 : decode cX4_livedThrough 37 = .ok (.istore 5, 2) := by decide +kernel
theorem dX4_livedThrough_39 : decode cX4_livedThrough 39 = .ok (.iload 5, 2) := by decide +kernel
theorem dX4_livedThrough_41 : decode cX4_livedThrough 41 = .ok (.iload_n 2, 1) := by decide +kernel
theorem dX4_livedThrough_42 : decode cX4_livedThrough 42 = .ok (.if_icmp .gt 17, 3) := by decide +kernel
theorem dX4_livedThrough_45 : decode cX4_livedThrough 45 = .ok (.aload_n 0, 1) := by decide +kernel
theorem dX4_livedThrough_46 : decode cX4_livedThrough 46 = .ok (.iload 4, 2) := by decide +kernel
theorem dX4_livedThrough_48 : decode cX4_livedThrough 48 = .ok (.iload 5, 2) := by decide +kernel
theorem dX4_livedThrough_50 : decode cX4_livedThrough 50 = .ok (.invokevirtual 73, 3) := by decide +kernel
theorem dX4_livedThrough_53 : decode cX4_livedThrough 53 = .ok (.ifCond .eq 6, 3) := by decide +kernel
theorem dX4_livedThrough_56 : decode cX4_livedThrough 56 = .ok (.iinc 3 1, 3) := by decide +kernel
theorem dX4_livedThrough_59 : decode cX4_livedThrough 59 = .ok (.iinc 4 1, 3) := by decide +kernel
theorem dX4_livedThrough_62 : decode cX4_livedThrough 62 = .ok (.goto (-57), 3) := by decide +kernel
theorem dX4_livedThrough_65 : decode cX4_livedThrough 65 = .ok (.iload_n 3, 1) := by decide +kernel
theorem dX4_livedThrough_66 : decode cX4_livedThrough 66 = .ok (.ireturn, 1) := by decide +kernel
set_option maxRecDepth 100000 in
theorem t_Lv_livedThrough_J59 (hC : CX z ad x cX4_livedThrough RX4 6 (some .int)) (hR : x.2.2.1 = rmk 2 0 0) (τ : XS) (k_5 : Int32 → Int32 → Int32 → Int32 → Option Int32) (hk_5 : ∀ (a1 : Int32) (a2 : Int32) (a3 : Int32) (a4 : Int32), AT z x 6 (wX z σ) rI (eqA ad) 0 0 0 0 ad 5 [(0, .ref 49), (1, .int a1), (2, .int a2), (3, .int a3), (4, .int a4)] [] τ ((k_5 a1 a2 a3 a4).map fun r => (r, τ))) (a1 : Int32) (a2 : Int32) (a3 : Int32) (a4 : Int32) : AT z x 6 (wX z σ) rI (eqA ad) 0 0 0 0 ad 59 [(0, .ref 49), (1, .int a1), (2, .int a2), (3, .int a3), (4, .int a4)] [] τ ((Lv_livedThrough_J59 k_5 τ a1 a2 a3 a4).map fun r => (r, τ)) := by
  unfold Lv_livedThrough_J59
  refine at_iinc (j := 4) (v := a4 + 1) (lv' := [(4, .int (a4 + 1)), (0, .ref 49), (1, .int a1), (2, .int a2), (3, .int a3)]) hC dX4_livedThrough_59 rfl rfl (by decide) rfl ?_
  refine at_goto (tgt := 5) hC dX4_livedThrough_62 rfl ?_
  refine at_drop (lv' := [(0, .ref 49), (1, .int a1), (2, .int a2), (3, .int a3), (4, .int (a4 + 1))]) [1, 2, 3, 4, 0] rfl ?_
  exact hk_5 a1 a2 a3 (a4 + 1)
set_option maxRecDepth 100000 in
theorem t_Lv_livedThrough_L5 (hC : CX z ad x cX4_livedThrough RX4 6 (some .int)) (hR : x.2.2.1 = rmk 2 0 0) (τ : XS) (n : Nat) (a1 : Int32) (a2 : Int32) (a3 : Int32) (a4 : Int32) : AT z x 6 (wX z σ) rI (eqA ad) 0 0 0 0 ad 5 [(0, .ref 49), (1, .int a1), (2, .int a2), (3, .int a3), (4, .int a4)] [] τ ((Lv_livedThrough_L5 n τ a1 a2 a3 a4).map fun r => (r, τ)) := by
  revert a1 a2 a3 a4
  show ∀ (a1 : Int32) (a2 : Int32) (a3 : Int32) (a4 : Int32), AT z x 6 (wX z σ) rI (eqA ad) 0 0 0 0 ad 5 [(0, .ref 49), (1, .int a1), (2, .int a2), (3, .int a3), (4, .int a4)] [] τ ((Lv_livedThrough_L5_r τ n a1 a2 a3 a4).map fun r => (r, τ))
  induction n with
  | zero => intro a1 a2 a3 a4; exact ap_none
  | succ n hk_5 =>
    intro a1 a2 a3 a4
    unfold Lv_livedThrough_L5_r
    refine at_iload (j := 4) hC rfl dX4_livedThrough_5 ?_
    refine at_aload_n (j := 0) hC rfl rfl dX4_livedThrough_7 ?_
    refine gf_X4_24 hC dX4_livedThrough_8 ?_
    refine gf_X4_82 hC dX4_livedThrough_11 ?_
    refine ap_icmp_ge (tgt := 65) hC dX4_livedThrough_14 rfl (fun _ => ?_) (fun _ => ?_)
    · refine at_iload_n (j := 3) hC rfl rfl dX4_livedThrough_65 ?_
      exact at_iret (F := eqA ad) (ra := rI) hC dX4_livedThrough_66 rfl (Nat.le_refl 0) (Nat.le_refl 0) rfl
    · refine at_aload_n (j := 0) hC rfl rfl dX4_livedThrough_17 ?_
      refine gf_X4_24 hC dX4_livedThrough_18 ?_
      refine gf_X4_66 hC dX4_livedThrough_21 ?_
      refine at_iload (j := 4) hC rfl dX4_livedThrough_24 ?_
      refine ap_iald hC 39 dX4_livedThrough_26 cl_39 (fun v1 => ?_)
      refine at_bipush hC bi_100 dX4_livedThrough_27 ?_
      refine at_iload_n (j := 1) hC rfl rfl dX4_livedThrough_29 ?_
      refine at_imul hC dX4_livedThrough_30 ?_
      refine at_iadd hC dX4_livedThrough_31 ?_
      refine at_bipush hC bi_100 dX4_livedThrough_32 ?_
      refine at_iadd hC dX4_livedThrough_34 ?_
      refine at_iconst hC ic_1 dX4_livedThrough_35 ?_
      refine at_isub hC dX4_livedThrough_36 ?_
      refine at_istore (lv' := [(5, .int (((v1 + (100 * a1)) + 100) - 1)), (0, .ref 49), (1, .int a1), (2, .int a2), (3, .int a3), (4, .int a4)]) hC dX4_livedThrough_37 (by decide) rfl ?_
      refine at_iload (j := 0) hC rfl dX4_livedThrough_39 ?_
      refine at_iload_n (j := 3) hC rfl rfl dX4_livedThrough_41 ?_
      refine ap_icmp_gt (tgt := 59) hC dX4_livedThrough_42 rfl (fun _ => ?_) (fun _ => ?_)
      · refine at_drop (lv' := [(0, .ref 49), (1, .int a1), (2, .int a2), (3, .int a3), (4, .int a4)]) [1, 2, 3, 4, 5] rfl ?_
        exact t_Lv_livedThrough_J59 hC hR τ (Lv_livedThrough_L5_r τ n) hk_5 a1 a2 a3 a4
      · refine at_aload_n (j := 1) hC rfl rfl dX4_livedThrough_45 ?_
        refine at_iload (j := 5) hC rfl dX4_livedThrough_46 ?_
        refine at_iload (j := 0) hC rfl dX4_livedThrough_48 ?_
        refine ap_callVI hC hR lk_X4_73 (c_Lv_livesOn τ a4 (((v1 + (100 * a1)) + 100) - 1)) dX4_livedThrough_50 recX4 rfl rfl ⟨by decide, by decide⟩ (Nat.le_of_ble_eq_true rfl) ⟨Nat.le_refl 0, Nat.le_refl 0⟩ (fun r2 _ => ?_)
        refine ap_if_eq (tgt := 59) hC dX4_livedThrough_53 rfl (fun _ => ?_) (fun _ => ?_)
        · refine at_drop (lv' := [(0, .ref 49), (1, .int a1), (2, .int a2), (3, .int a3), (4, .int a4)]) [1, 2, 3, 4, 5] rfl ?_
          exact t_Lv_livedThrough_J59 hC hR τ (Lv_livedThrough_L5_r τ n) hk_5 a1 a2 a3 a4
        · refine at_iinc (j := 4) (v := a3 + 1) (lv' := [(3, .int (a3 + 1)), (5, .int (((v1 + (100 * a1)) + 100) - 1)), (0, .ref 49), (1, .int a1), (2, .int a2), (4, .int a4)]) hC dX4_livedThrough_56 rfl rfl (by decide) rfl ?_
          refine at_drop (lv' := [(0, .ref 49), (1, .int a1), (2, .int a2), (3, .int (a3 + 1)), (4, .int a4)]) [2, 3, 4, 0, 5] rfl ?_
          exact t_Lv_livedThrough_J59 hC hR τ (Lv_livedThrough_L5_r τ n) hk_5 a1 a2 (a3 + 1) a4
set_option maxRecDepth 100000 in
theorem c_Lv_livedThrough (τ : XS) (p0 : Int32) (p1 : Int32) : Ct z (wX z σ) rI eqA yX4_livedThrough cX4_livedThrough 6 (some .int) 2 0 0 [.ref 49, .int p0, .int p1] τ ((Lv_livedThrough τ p0 p1).map fun r => (r, τ)) := by
  refine Ct.of (by decide) (Nat.le_of_ble_eq_true rfl) (fun ad x hC hR _ => ?_)
  show AT z x 6 (wX z σ) rI (eqA ad) 0 0 0 0 ad 0 [(0, .ref 49), (1, .int p0), (2, .int p1)] [] τ ((Lv_livedThrough τ p0 p1).map fun r => (r, τ))
  unfold Lv_livedThrough
  refine at_iconst hC ic_0 dX4_livedThrough_0 ?_
  refine at_istore_n (lv' := [(3, .int 0), (0, .ref 49), (1, .int p0), (2, .int p1)]) hC rfl dX4_livedThrough_1 (by decide) rfl ?_
  refine at_iconst hC ic_0 dX4_livedThrough_2 ?_
  refine at_istore (lv' := [(4, .int 0), (3, .int 0), (0, .ref 49), (1, .int p0), (2, .int p1)]) hC dX4_livedThrough_3 (by decide) rfl ?_
  refine at_drop (lv' := [(0, .ref 49), (1, .int p0), (2, .int p1), (3, .int 0), (4, .int 0)]) [2, 3, 4, 1, 0] rfl ?_
  exact t_Lv_livedThrough_L5 hC hR τ 100000 p0 p1 0 0
theorem dX5_give_0 : decode cX5_give 0 = .ok (.aload_n 0, 1) := by decide +kernel
theorem dX5_give_1 : decode cX5_give 1 = .ok (.getfield 27, 3) := by decide +kernel
theorem dX5_give_4 : decode cX5_give 4 = .ok (.bipush 12, 2) := by decide +kernel
theorem dX5_give_6 : decode cX5_give 6 = .ok (.if_icmp .lt 6, 3) := by decide +kernel
theorem dX5_give_9 : decode cX5_give 9 = .ok (.bipush (-4), 2) := by decide +kernel
theorem dX5_give_11 : decode cX5_give 11 = .ok (.ireturn, 1) := by decide +kernel
theorem dX5_give_12 : decode cX5_give 12 = .ok (.aload_n 0, 1) := by decide +kernel
theorem dX5_give_13 : decode cX5_give 13 = .ok (.getfield 9, 3) := by decide +kernel
theorem dX5_give_16 : decode cX5_give 16 = .ok (.aload_n 0, 1) := by decide +kernel
theorem dX5_give_17 : decode cX5_give 17 = .ok (.getfield 27, 3) := by decide +kernel
theorem dX5_give_20 : decode cX5_give 20 = .ok (.iload_n 1, 1) := by decide +kernel
theorem dX5_give_21 : decode cX5_give 21 = .ok (.iastore, 1) := by decide +kernel
theorem dX5_give_22 : decode cX5_give 22 = .ok (.aload_n 0, 1) := by decide +kernel
theorem dX5_give_23 : decode cX5_give 23 = .ok (.getfield 15, 3) := by decide +kernel
theorem dX5_give_26 : decode cX5_give 26 = .ok (.aload_n 0, 1) := by decide +kernel
theorem dX5_give_27 : decode cX5_give 27 = .ok (.getfield 27, 3) := by decide +kernel
theorem dX5_give_30 : decode cX5_give 30 = .ok (.iload_n 2, 1) := by decide +kernel
theorem dX5_give_31 : decode cX5_give 31 = .ok (.iastore, 1) := by decide +kernel
theorem dX5_give_32 : decode cX5_give 32 = .ok (.aload_n 0, 1) := by decide +kernel
theorem dX5_give_33 : decode cX5_give 33 = .ok (.getfield 18, 3) := by decide +kernel
theorem dX5_give_36 : decode cX5_give 36 = .ok (.aload_n 0, 1) := by decide +kernel
theorem dX5_give_37 : decode cX5_give 37 = .ok (.getfield 27, 3) := by decide +kernel
theorem dX5_give_40 : decode cX5_give 40 = .ok (.iload_n 3, 1) := by decide +kernel
theorem dX5_give_41 : decode cX5_give 41 = .ok (.iastore, 1) := by decide +kernel
theorem dX5_give_42 : decode cX5_give 42 = .ok (.aload_n 0, 1) := by decide +kernel
theorem dX5_give_43 : decode cX5_give 43 = .ok (.getfield 21, 3) := by decide +kernel
theorem dX5_give_46 : decode cX5_give 46 = .ok (.aload_n 0, 1) := by decide +kernel
theorem dX5_give_47 : decode cX5_give 47 = .ok (.getfield 27, 3) := by decide +kernel
theorem dX5_give_50 : decode cX5_give 50 = .ok (.iload 4, 2) := by decide +kernel
theorem dX5_give_52 : decode cX5_give 52 = .ok (.iastore, 1) := by decide +kernel
theorem dX5_give_53 : decode cX5_give 53 = .ok (.aload_n 0, 1) := by decide +kernel
theorem dX5_give_54 : decode cX5_give 54 = .ok (.getfield 24, 3) := by decide +kernel
theorem dX5_give_57 : decode cX5_give 57 = .ok (.aload_n 0, 1) := by decide +kernel
theorem dX5_give_58 : decode cX5_give 58 = .ok (.getfield 27, 3) := by decide +kernel
theorem dX5_give_61 : decode cX5_give 61 = .ok (.bipush 100, 2) := by decide +kernel
theorem dX5_give_63 : decode cX5_give 63 = .ok (.iastore, 1) := by decide +kernel
theorem dX5_give_64 : decode cX5_give 64 = .ok (.aload_n 0, 1) := by decide +kernel
theorem dX5_give_65 : decode cX5_give 65 = .ok (.dup, 1) := by decide +kernel
theorem dX5_give_66 : decode cX5_give 66 = .ok (.getfield 27, 3) := by decide +kernel
theorem dX5_give_69 : decode cX5_give 69 = .ok (.dup_x1, 1) := by decide +kernel
theorem dX5_give_70 : decode cX5_give 70 = .ok (.iconst 1, 1) := by decide +kernel
theorem dX5_give_71 : decode cX5_give 71 = .ok (.iadd, 1) := by decide +kernel
theorem dX5_give_72 : decode cX5_give 72 = .ok (.putfield 27, 3) := by decide +kernel
theorem dX5_give_75 : decode cX5_give 75 = .ok (.ireturn, 1) := by decide +kernel
set_option maxRecDepth 100000 in
theorem c_Ln_give (τ : XS) (p0 : Int32) (p1 : Int32) (p2 : Int32) (p3 : Int32) : Ct z (wX z σ) rI eqA yX5_give cX5_give 5 (some .int) 1 0 0 [.ref 62, .int p0, .int p1, .int p2, .int p3] τ (Ln_give τ p0 p1 p2 p3) := by
  refine Ct.of (by decide) (Nat.le_of_ble_eq_true rfl) (fun ad x hC hR _ => ?_)
  show AT z x 5 (wX z σ) rI (eqA ad) 0 0 0 0 ad 0 [(0, .ref 62), (1, .int p0), (2, .int p1), (3, .int p2), (4, .int p3)] [] τ (Ln_give τ p0 p1 p2 p3)
  unfold Ln_give
  refine at_aload_n (j := 0) hC rfl rfl dX5_give_0 ?_
  refine gf_X5_27 hC dX5_give_1 ?_
  refine at_bipush hC bi_12 dX5_give_4 ?_
  refine at_icmp_lt (tgt := 12) hC dX5_give_6 rfl (fun _ => ?_) (fun _ => ?_)
  · refine at_aload_n (j := 0) hC rfl rfl dX5_give_12 ?_
    refine gf_X5_9 hC dX5_give_13 ?_
    refine at_aload_n (j := 0) hC rfl rfl dX5_give_16 ?_
    refine gf_X5_27 hC dX5_give_17 ?_
    refine at_iload_n (j := 1) hC rfl rfl dX5_give_20 ?_
    refine at_iast hC 63 dX5_give_21 cl_63 st_63 ?_
    refine at_aload_n (j := 0) hC rfl rfl dX5_give_22 ?_
    refine gf_X5_15 hC dX5_give_23 ?_
    refine at_aload_n (j := 0) hC rfl rfl dX5_give_26 ?_
    refine gf_X5_27 hC dX5_give_27 ?_
    refine at_iload_n (j := 2) hC rfl rfl dX5_give_30 ?_
    refine at_iast hC 64 dX5_give_31 cl_64 st_64 ?_
    refine at_aload_n (j := 0) hC rfl rfl dX5_give_32 ?_
    refine gf_X5_18 hC dX5_give_33 ?_
    refine at_aload_n (j := 0) hC rfl rfl dX5_give_36 ?_
    refine gf_X5_27 hC dX5_give_37 ?_
    refine at_iload_n (j := 3) hC rfl rfl dX5_give_40 ?_
    refine at_iast hC 65 dX5_give_41 cl_65 st_65 ?_
    refine at_aload_n (j := 0) hC rfl rfl dX5_give_42 ?_
    refine gf_X5_21 hC dX5_give_43 ?_
    refine at_aload_n (j := 0) hC rfl rfl dX5_give_46 ?_
    refine gf_X5_27 hC dX5_give_47 ?_
    refine at_iload (j := 4) hC rfl dX5_give_50 ?_
    refine at_iast hC 66 dX5_give_52 cl_66 st_66 ?_
    refine at_aload_n (j := 0) hC rfl rfl dX5_give_53 ?_
    refine gf_X5_24 hC dX5_give_54 ?_
    refine at_aload_n (j := 0) hC rfl rfl dX5_give_57 ?_
    refine gf_X5_27 hC dX5_give_58 ?_
    refine at_bipush hC bi_100 dX5_give_61 ?_
    refine at_iast hC 67 dX5_give_63 cl_67 st_67 ?_
    refine at_aload_n (j := 0) hC rfl rfl dX5_give_64 ?_
    refine at_dup hC rfl dX5_give_65 ?_
    refine gf_X5_27 hC dX5_give_66 ?_
    refine at_dup_x1 hC rfl rfl dX5_give_69 ?_
    refine at_iconst hC ic_1 dX5_give_70 ?_
    refine at_iadd hC dX5_give_71 ?_
    refine pf_X5_27 hC dX5_give_72 ?_
    exact at_iret (F := eqA ad) (ra := rI) hC dX5_give_75 rfl (Nat.le_refl 0) (Nat.le_refl 0) rfl
  · refine at_bipush hC bi_m4 dX5_give_9 ?_
    exact at_iret (F := eqA ad) (ra := rI) hC dX5_give_11 rfl (Nat.le_refl 0) (Nat.le_refl 0) rfl
theorem dX6_aliveAfter_0 : decode cX6_aliveAfter 0 = .ok (.ldc 21, 2) := by decide +kernel
theorem dX6_aliveAfter_2 : decode cX6_aliveAfter 2 = .ok (.istore_n 3, 1) := by decide +kernel
theorem dX6_aliveAfter_3 : decode cX6_aliveAfter 3 = .ok (.iconst 0, 1) := by decide +kernel
theorem dX6_aliveAfter_4 : decode cX6_aliveAfter 4 = .ok (.istore 4, 2) := by decide +kernel
theorem dX6_aliveAfter_6 : decode cX6_aliveAfter 6 = .ok (.iload 4, 2) := by decide +kernel
theorem dX6_aliveAfter_8 : decode cX6_aliveAfter 8 = .ok (.iload_n 2, 1) := by decide +kernel
theorem dX6_aliveAfter_9 : decode cX6_aliveAfter 9 = .ok (.if_icmp .ge 19, 3) := by decide +kernel
theorem dX6_aliveAfter_12 : decode cX6_aliveAfter 12 = .ok (.aload_n 0, 1) := by decide +kernel
theorem dX6_aliveAfter_13 : decode cX6_aliveAfter 13 = .ok (.iload_n 3, 1) := by decide +kernel
theorem dX6_aliveAfter_14 : decode cX6_aliveAfter 14 = .ok (.iload_n 1, 1) := by decide +kernel
theorem dX6_aliveAfter_15 : decode cX6_aliveAfter 15 = .ok (.iload 4, 2) := by decide +kernel
theorem dX6_aliveAfter_17 : decode cX6_aliveAfter 17 = .ok (.iadd, 1) := by decide +kernel
theorem dX6_aliveAfter_18 : decode cX6_aliveAfter 18 = .ok (.invokevirtual 22, 3) := by decide +kernel
theorem dX6_aliveAfter_21 : decode cX6_aliveAfter 21 = .ok (.istore_n 3, 1) := by decide +kernel
theorem dX6_aliveAfter_22 : decode cX6_aliveAfter 22 = .ok (.iinc 4 1, 3) := by decide +kernel
theorem dX6_aliveAfter_25 : decode cX6_aliveAfter 25 = .ok (.goto (-19), 3) := by decide +kernel
theorem dX6_aliveAfter_28 : decode cX6_aliveAfter 28 = .ok (.iload_n 3, 1) := by decide +kernel
theorem dX6_aliveAfter_29 : decode cX6_aliveAfter 29 = .ok (.ireturn, 1) := by decide +kernel
set_option maxRecDepth 100000 in
theorem t_Tb_aliveAfter_L6 (hC : CX z ad x cX6_aliveAfter RX6 5 (some .int)) (hR : x.2.2.1 = rmk 2 0 0) (τ : XS) (n : Nat) (a1 : Int32) (a2 : Int32) (a3 : Int32) (a4 : Int32) : AT z x 5 (wX z σ) rI (eqA ad) 0 0 0 0 ad 6 [(0, .ref 68), (1, .int a1), (2, .int a2), (3, .int a3), (4, .int a4)] [] τ ((Tb_aliveAfter_L6 n τ a1 a2 a3 a4).map fun r => (r, τ)) := by
  revert a1 a2 a3 a4
  show ∀ (a1 : Int32) (a2 : Int32) (a3 : Int32) (a4 : Int32), AT z x 5 (wX z σ) rI (eqA ad) 0 0 0 0 ad 6 [(0, .ref 68), (1, .int a1), (2, .int a2), (3, .int a3), (4, .int a4)] [] τ ((Tb_aliveAfter_L6_r τ n a1 a2 a3 a4).map fun r => (r, τ))
  induction n with
  | zero => intro a1 a2 a3 a4; exact ap_none
  | succ n hk_6 =>
    intro a1 a2 a3 a4
    unfold Tb_aliveAfter_L6_r
    refine at_iload (j := 4) hC rfl dX6_aliveAfter_6 ?_
    refine at_iload_n (j := 2) hC rfl rfl dX6_aliveAfter_8 ?_
    refine ap_icmp_ge (tgt := 28) hC dX6_aliveAfter_9 rfl (fun _ => ?_) (fun _ => ?_)
    · refine at_iload_n (j := 3) hC rfl rfl dX6_aliveAfter_28 ?_
      exact at_iret (F := eqA ad) (ra := rI) hC dX6_aliveAfter_29 rfl (Nat.le_refl 0) (Nat.le_refl 0) rfl
    · refine at_aload_n (j := 0) hC rfl rfl dX6_aliveAfter_12 ?_
      refine at_iload_n (j := 3) hC rfl rfl dX6_aliveAfter_13 ?_
      refine at_iload_n (j := 1) hC rfl rfl dX6_aliveAfter_14 ?_
      refine at_iload (j := 4) hC rfl dX6_aliveAfter_15 ?_
      refine at_iadd hC dX6_aliveAfter_17 ?_
      refine ap_callVI hC hR lk_X6_22 (c_Tb_afterYear τ a3 (a1 + a4)) dX6_aliveAfter_18 recX6 rfl rfl ⟨by decide, by decide⟩ (Nat.le_of_ble_eq_true rfl) ⟨Nat.le_refl 0, Nat.le_refl 0⟩ (fun r1 _ => ?_)
      refine at_istore_n (lv' := [(3, .int r1), (0, .ref 68), (1, .int a1), (2, .int a2), (4, .int a4)]) hC rfl dX6_aliveAfter_21 (by decide) rfl ?_
      refine at_iinc (j := 4) (v := a4 + 1) (lv' := [(4, .int (a4 + 1)), (3, .int r1), (0, .ref 68), (1, .int a1), (2, .int a2)]) hC dX6_aliveAfter_22 rfl rfl (by decide) rfl ?_
      refine at_goto (tgt := 6) hC dX6_aliveAfter_25 rfl ?_
      refine at_drop (lv' := [(0, .ref 68), (1, .int a1), (2, .int a2), (3, .int r1), (4, .int (a4 + 1))]) [2, 3, 4, 1, 0] rfl ?_
      exact hk_6 a1 a2 r1 (a4 + 1)
set_option maxRecDepth 100000 in
theorem c_Tb_aliveAfter (τ : XS) (p0 : Int32) (p1 : Int32) : Ct z (wX z σ) rI eqA yX6_aliveAfter cX6_aliveAfter 5 (some .int) 2 0 0 [.ref 68, .int p0, .int p1] τ ((Tb_aliveAfter τ p0 p1).map fun r => (r, τ)) := by
  refine Ct.of (by decide) (Nat.le_of_ble_eq_true rfl) (fun ad x hC hR _ => ?_)
  show AT z x 5 (wX z σ) rI (eqA ad) 0 0 0 0 ad 0 [(0, .ref 68), (1, .int p0), (2, .int p1)] [] τ ((Tb_aliveAfter τ p0 p1).map fun r => (r, τ))
  unfold Tb_aliveAfter
  refine at_ldc hC kc_X6_21 dX6_aliveAfter_0 ?_
  refine at_istore_n (lv' := [(3, .int 1000000), (0, .ref 68), (1, .int p0), (2, .int p1)]) hC rfl dX6_aliveAfter_2 (by decide) rfl ?_
  refine at_iconst hC ic_0 dX6_aliveAfter_3 ?_
  refine at_istore (lv' := [(4, .int 0), (3, .int 1000000), (0, .ref 68), (1, .int p0), (2, .int p1)]) hC dX6_aliveAfter_4 (by decide) rfl ?_
  refine at_drop (lv' := [(0, .ref 68), (1, .int p0), (2, .int p1), (3, .int 1000000), (4, .int 0)]) [2, 3, 4, 1, 0] rfl ?_
  exact t_Tb_aliveAfter_L6 hC hR τ 100000 p0 p1 1000000 0
theorem dX6_yearsAhead_0 : decode cX6_yearsAhead 0 = .ok (.ldc 21, 2) := by decide +kernel
theorem dX6_yearsAhead_2 : decode cX6_yearsAhead 2 = .ok (.istore_n 2, 1) := by decide +kernel
theorem dX6_yearsAhead_3 : decode cX6_yearsAhead 3 = .ok (.iconst 0, 1) := by decide +kernel
theorem dX6_yearsAhead_4 : decode cX6_yearsAhead 4 = .ok (.istore_n 3, 1) := by decide +kernel
theorem dX6_yearsAhead_5 : decode cX6_yearsAhead 5 = .ok (.iload_n 1, 1) := by decide +kernel
theorem dX6_yearsAhead_6 : decode cX6_yearsAhead 6 = .ok (.istore 4, 2) := by decide +kernel
theorem dX6_yearsAhead_8 : decode cX6_yearsAhead 8 = .ok (.iload 4, 2) := by decide +kernel
theorem dX6_yearsAhead_10 : decode cX6_yearsAhead 10 = .ok (.bipush 100, 2) := by decide +kernel
theorem dX6_yearsAhead_12 : decode cX6_yearsAhead 12 = .ok (.if_icmp .ge 21, 3) := by decide +kernel
theorem dX6_yearsAhead_15 : decode cX6_yearsAhead 15 = .ok (.aload_n 0, 1) := by decide +kernel
theorem dX6_yearsAhead_16 : decode cX6_yearsAhead 16 = .ok (.iload_n 2, 1) := by decide +kernel
theorem dX6_yearsAhead_17 : decode cX6_yearsAhead 17 = .ok (.iload 4, 2) := by decide +kernel
theorem dX6_yearsAhead_19 : decode cX6_yearsAhead 19 = .ok (.invokevirtual 22, 3) := by decide +kernel
theorem dX6_yearsAhead_22 : decode cX6_yearsAhead 22 = .ok (.istore_n 2, 1) := by decide +kernel
theorem dX6_yearsAhead_23 : decode cX6_yearsAhead 23 = .ok (.iload_n 3, 1) := by decide +kernel
theorem dX6_yearsAhead_24 : decode cX6_yearsAhead 24 = .ok (.iload_n 2, 1) := by decide +kernel
theorem dX6_yearsAhead_25 : decode cX6_yearsAhead 25 = .ok (.iadd, 1) := by decide +kernel
theorem dX6_yearsAhead_26 : decode cX6_yearsAhead 26 = .ok (.istore_n 3, 1) := by decide +kernel
theorem dX6_yearsAhead_27 : decode cX6_yearsAhead 27 = .ok (.iinc 4 1, 3) := by decide +kernel
theorem dX6_yearsAhead_30 : decode cX6_yearsAhead 30 = .ok (.goto (-22), 3) := by decide +kernel
theorem dX6_yearsAhead_33 : decode cX6_yearsAhead 33 = .ok (.iload_n 3, 1) := by decide +kernel
theorem dX6_yearsAhead_34 : decode cX6_yearsAhead 34 = .ok (.ireturn, 1) := by decide +kernel
set_option maxRecDepth 100000 in
theorem t_Tb_yearsAhead_L8 (hC : CX z ad x cX6_yearsAhead RX6 5 (some .int)) (hR : x.2.2.1 = rmk 2 0 0) (τ : XS) (n : Nat) (a2 : Int32) (a3 : Int32) (a4 : Int32) : AT z x 5 (wX z σ) rI (eqA ad) 0 0 0 0 ad 8 [(0, .ref 68), (2, .int a2), (3, .int a3), (4, .int a4)] [] τ ((Tb_yearsAhead_L8 n τ a2 a3 a4).map fun r => (r, τ)) := by
  revert a2 a3 a4
  show ∀ (a2 : Int32) (a3 : Int32) (a4 : Int32), AT z x 5 (wX z σ) rI (eqA ad) 0 0 0 0 ad 8 [(0, .ref 68), (2, .int a2), (3, .int a3), (4, .int a4)] [] τ ((Tb_yearsAhead_L8_r τ n a2 a3 a4).map fun r => (r, τ))
  induction n with
  | zero => intro a2 a3 a4; exact ap_none
  | succ n hk_8 =>
    intro a2 a3 a4
    unfold Tb_yearsAhead_L8_r
    refine at_iload (j := 3) hC rfl dX6_yearsAhead_8 ?_
    refine at_bipush hC bi_100 dX6_yearsAhead_10 ?_
    refine ap_icmp_ge (tgt := 33) hC dX6_yearsAhead_12 rfl (fun _ => ?_) (fun _ => ?_)
    · refine at_iload_n (j := 2) hC rfl rfl dX6_yearsAhead_33 ?_
      exact at_iret (F := eqA ad) (ra := rI) hC dX6_yearsAhead_34 rfl (Nat.le_refl 0) (Nat.le_refl 0) rfl
    · refine at_aload_n (j := 0) hC rfl rfl dX6_yearsAhead_15 ?_
      refine at_iload_n (j := 1) hC rfl rfl dX6_yearsAhead_16 ?_
      refine at_iload (j := 3) hC rfl dX6_yearsAhead_17 ?_
      refine ap_callVI hC hR lk_X6_22 (c_Tb_afterYear τ a2 a4) dX6_yearsAhead_19 recX6 rfl rfl ⟨by decide, by decide⟩ (Nat.le_of_ble_eq_true rfl) ⟨Nat.le_refl 0, Nat.le_refl 0⟩ (fun r1 _ => ?_)
      refine at_istore_n (lv' := [(2, .int r1), (0, .ref 68), (3, .int a3), (4, .int a4)]) hC rfl dX6_yearsAhead_22 (by decide) rfl ?_
      refine at_iload_n (j := 2) hC rfl rfl dX6_yearsAhead_23 ?_
      refine at_iload_n (j := 0) hC rfl rfl dX6_yearsAhead_24 ?_
      refine at_iadd hC dX6_yearsAhead_25 ?_
      refine at_istore_n (lv' := [(3, .int (a3 + r1)), (2, .int r1), (0, .ref 68), (4, .int a4)]) hC rfl dX6_yearsAhead_26 (by decide) rfl ?_
      refine at_iinc (j := 3) (v := a4 + 1) (lv' := [(4, .int (a4 + 1)), (3, .int (a3 + r1)), (2, .int r1), (0, .ref 68)]) hC dX6_yearsAhead_27 rfl rfl (by decide) rfl ?_
      refine at_goto (tgt := 8) hC dX6_yearsAhead_30 rfl ?_
      refine at_drop (lv' := [(0, .ref 68), (2, .int r1), (3, .int (a3 + r1)), (4, .int (a4 + 1))]) [3, 2, 1, 0] rfl ?_
      exact hk_8 r1 (a3 + r1) (a4 + 1)
set_option maxRecDepth 100000 in
theorem c_Tb_yearsAhead (τ : XS) (p0 : Int32) : Ct z (wX z σ) rI eqA yX6_yearsAhead cX6_yearsAhead 5 (some .int) 2 0 0 [.ref 68, .int p0] τ ((Tb_yearsAhead τ p0).map fun r => (r, τ)) := by
  refine Ct.of (by decide) (Nat.le_of_ble_eq_true rfl) (fun ad x hC hR _ => ?_)
  show AT z x 5 (wX z σ) rI (eqA ad) 0 0 0 0 ad 0 [(0, .ref 68), (1, .int p0)] [] τ ((Tb_yearsAhead τ p0).map fun r => (r, τ))
  unfold Tb_yearsAhead
  refine at_ldc hC kc_X6_21 dX6_yearsAhead_0 ?_
  refine at_istore_n (lv' := [(2, .int 1000000), (0, .ref 68), (1, .int p0)]) hC rfl dX6_yearsAhead_2 (by decide) rfl ?_
  refine at_iconst hC ic_0 dX6_yearsAhead_3 ?_
  refine at_istore_n (lv' := [(3, .int 0), (2, .int 1000000), (0, .ref 68), (1, .int p0)]) hC rfl dX6_yearsAhead_4 (by decide) rfl ?_
  refine at_iload_n (j := 3) hC rfl rfl dX6_yearsAhead_5 ?_
  refine at_istore (lv' := [(4, .int p0), (3, .int 0), (2, .int 1000000), (0, .ref 68), (1, .int p0)]) hC dX6_yearsAhead_6 (by decide) rfl ?_
  refine at_drop (lv' := [(0, .ref 68), (2, .int 1000000), (3, .int 0), (4, .int p0)]) [3, 2, 1, 0] rfl ?_
  exact t_Tb_yearsAhead_L8 hC hR τ 100000 1000000 0 p0
theorem dX7_addByte_0 : decode cX7_addByte 0 = .ok (.aload_n 0, 1) := by decide +kernel
theorem dX7_addByte_1 : decode cX7_addByte 1 = .ok (.getfield 18, 3) := by decide +kernel
theorem dX7_addByte_4 : decode cX7_addByte 4 = .ok (.sipush 200, 3) := by decide +kernel
theorem dX7_addByte_7 : decode cX7_addByte 7 = .ok (.if_icmp .ge 20, 3) := by decide +kernel
theorem dX7_addByte_10 : decode cX7_addByte 10 = .ok (.aload_n 0, 1) := by decide +kernel
theorem dX7_addByte_11 : decode cX7_addByte 11 = .ok (.getfield 9, 3) := by decide +kernel
theorem dX7_addByte_14 : decode cX7_addByte 14 = .ok (.aload_n 0, 1) := by decide +kernel
theorem dX7_addByte_15 : decode cX7_addByte 15 = .ok (.dup, 1) := by decide +kernel
theorem dX7_addByte_16 : decode cX7_addByte 16 = .ok (.getfield 18, 3) := by decide +kernel
theorem dX7_addByte_19 : decode cX7_addByte 19 = .ok (.dup_x1, 1) := by decide +kernel
theorem dX7_addByte_20 : decode cX7_addByte 20 = .ok (.iconst 1, 1) := by decide +kernel
theorem dX7_addByte_21 : decode cX7_addByte 21 = .ok (.iadd, 1) := by decide +kernel
theorem dX7_addByte_22 : decode cX7_addByte 22 = .ok (.putfield 18, 3) := by decide +kernel
theorem dX7_addByte_25 : decode cX7_addByte 25 = .ok (.iload_n 1, 1) := by decide +kernel
theorem dX7_addByte_26 : decode cX7_addByte 26 = .ok (.iastore, 1) := by decide +kernel
theorem dX7_addByte_27 : decode cX7_addByte 27 = .ok (.return_, 1) := by decide +kernel
set_option maxRecDepth 100000 in
theorem c_Tp_addByte (τ : XS) (p0 : Int32) : Ct z (wX z σ) rU eqA yX7_addByte cX7_addByte 2 none 1 0 0 [.ref 54, .int p0] τ (Tp_addByte τ p0) := by
  refine Ct.of (by decide) (Nat.le_of_ble_eq_true rfl) (fun ad x hC hR _ => ?_)
  show AT z x 2 (wX z σ) rU (eqA ad) 0 0 0 0 ad 0 [(0, .ref 54), (1, .int p0)] [] τ (Tp_addByte τ p0)
  unfold Tp_addByte
  refine at_aload_n (j := 0) hC rfl rfl dX7_addByte_0 ?_
  refine gf_X7_18 hC dX7_addByte_1 ?_
  refine at_sipush hC si_200 dX7_addByte_4 ?_
  refine at_icmp_ge (tgt := 27) hC dX7_addByte_7 rfl (fun _ => ?_) (fun _ => ?_)
  · exact at_vret (F := eqA ad) (ra := rU) hC dX7_addByte_27 rfl (Nat.le_refl 0) (Nat.le_refl 0) rfl
  · refine at_aload_n (j := 0) hC rfl rfl dX7_addByte_10 ?_
    refine gf_X7_9 hC dX7_addByte_11 ?_
    refine at_aload_n (j := 0) hC rfl rfl dX7_addByte_14 ?_
    refine at_dup hC rfl dX7_addByte_15 ?_
    refine gf_X7_18 hC dX7_addByte_16 ?_
    refine at_dup_x1 hC rfl rfl dX7_addByte_19 ?_
    refine at_iconst hC ic_1 dX7_addByte_20 ?_
    refine at_iadd hC dX7_addByte_21 ?_
    refine pf_X7_18 hC dX7_addByte_22 ?_
    refine at_iload_n (j := 1) hC rfl rfl dX7_addByte_25 ?_
    refine at_iast hC 55 dX7_addByte_26 cl_55 st_55 ?_
    exact at_vret (F := eqA ad) (ra := rU) hC dX7_addByte_27 rfl (Nat.le_refl 0) (Nat.le_refl 0) rfl
theorem dX7_next_0 : decode cX7_next 0 = .ok (.aload_n 0, 1) := by decide +kernel
theorem dX7_next_1 : decode cX7_next 1 = .ok (.getfield 27, 3) := by decide +kernel
theorem dX7_next_4 : decode cX7_next 4 = .ok (.aload_n 0, 1) := by decide +kernel
theorem dX7_next_5 : decode cX7_next 5 = .ok (.getfield 18, 3) := by decide +kernel
theorem dX7_next_8 : decode cX7_next 8 = .ok (.if_icmp .ge 25, 3) := by decide +kernel
theorem dX7_next_11 : decode cX7_next 11 = .ok (.aload_n 0, 1) := by decide +kernel
theorem dX7_next_12 : decode cX7_next 12 = .ok (.getfield 27, 3) := by decide +kernel
theorem dX7_next_15 : decode cX7_next 15 = .ok (.sipush 200, 3) := by decide +kernel
theorem dX7_next_18 : decode cX7_next 18 = .ok (.if_icmp .ge 15, 3) := by decide +kernel
theorem dX7_next_21 : decode cX7_next 21 = .ok (.aload_n 0, 1) := by decide +kernel
theorem dX7_next_22 : decode cX7_next 22 = .ok (.getfield 9, 3) := by decide +kernel
theorem dX7_next_25 : decode cX7_next 25 = .ok (.aload_n 0, 1) := by decide +kernel
theorem dX7_next_26 : decode cX7_next 26 = .ok (.getfield 27, 3) := by decide +kernel
theorem dX7_next_29 : decode cX7_next 29 = .ok (.iaload, 1) := by decide +kernel
theorem dX7_next_30 : decode cX7_next 30 = .ok (.goto 4, 3) := by decide +kernel
theorem dX7_next_33 : decode cX7_next 33 = .ok (.iconst (-1), 1) := by decide +kernel
theorem dX7_next_34 : decode cX7_next 34 = .ok (.ireturn, 1) := by decide +kernel
set_option maxRecDepth 100000 in
theorem c_Tp_next (τ : XS) : Ct z (wX z σ) rI eqA yX7_next cX7_next 1 (some .int) 1 0 0 [.ref 54] τ ((Tp_next τ).map fun r => (r, τ)) := by
  refine Ct.of (by decide) (Nat.le_of_ble_eq_true rfl) (fun ad x hC hR _ => ?_)
  show AT z x 1 (wX z σ) rI (eqA ad) 0 0 0 0 ad 0 [(0, .ref 54)] [] τ ((Tp_next τ).map fun r => (r, τ))
  unfold Tp_next
  refine at_aload_n (j := 0) hC rfl rfl dX7_next_0 ?_
  refine gf_X7_27 hC dX7_next_1 ?_
  refine at_aload_n (j := 0) hC rfl rfl dX7_next_4 ?_
  refine gf_X7_18 hC dX7_next_5 ?_
  refine ap_icmp_ge (tgt := 33) hC dX7_next_8 rfl (fun _ => ?_) (fun _ => ?_)
  · refine at_iconst hC ic_m1 dX7_next_33 ?_
    exact at_iret (F := eqA ad) (ra := rI) hC dX7_next_34 rfl (Nat.le_refl 0) (Nat.le_refl 0) rfl
  · refine at_aload_n (j := 0) hC rfl rfl dX7_next_11 ?_
    refine gf_X7_27 hC dX7_next_12 ?_
    refine at_sipush hC si_200 dX7_next_15 ?_
    refine ap_icmp_ge (tgt := 33) hC dX7_next_18 rfl (fun _ => ?_) (fun _ => ?_)
    · refine at_iconst hC ic_m1 dX7_next_33 ?_
      exact at_iret (F := eqA ad) (ra := rI) hC dX7_next_34 rfl (Nat.le_refl 0) (Nat.le_refl 0) rfl
    · refine at_aload_n (j := 0) hC rfl rfl dX7_next_21 ?_
      refine gf_X7_9 hC dX7_next_22 ?_
      refine at_aload_n (j := 0) hC rfl rfl dX7_next_25 ?_
      refine gf_X7_27 hC dX7_next_26 ?_
      refine ap_iald hC 55 dX7_next_29 cl_55 (fun v1 => ?_)
      refine at_goto (tgt := 34) hC dX7_next_30 rfl ?_
      exact at_iret (F := eqA ad) (ra := rI) hC dX7_next_34 rfl (Nat.le_refl 0) (Nat.le_refl 0) rfl
theorem dX7_readAll_0 : decode cX7_readAll 0 = .ok (.iconst 0, 1) := by decide +kernel
theorem dX7_readAll_1 : decode cX7_readAll 1 = .ok (.istore_n 2, 1) := by decide +kernel
theorem dX7_readAll_2 : decode cX7_readAll 2 = .ok (.iload_n 2, 1) := by decide +kernel
theorem dX7_readAll_3 : decode cX7_readAll 3 = .ok (.aload_n 1, 1) := by decide +kernel
theorem dX7_readAll_4 : decode cX7_readAll 4 = .ok (.invokevirtual 48, 3) := by decide +kernel
theorem dX7_readAll_7 : decode cX7_readAll 7 = .ok (.if_icmp .ge 33, 3) := by decide +kernel
theorem dX7_readAll_10 : decode cX7_readAll 10 = .ok (.aload_n 0, 1) := by decide +kernel
theorem dX7_readAll_11 : decode cX7_readAll 11 = .ok (.invokevirtual 30, 3) := by decide +kernel
theorem dX7_readAll_14 : decode cX7_readAll 14 = .ok (.aload_n 1, 1) := by decide +kernel
theorem dX7_readAll_15 : decode cX7_readAll 15 = .ok (.iload_n 2, 1) := by decide +kernel
theorem dX7_readAll_16 : decode cX7_readAll 16 = .ok (.invokevirtual 53, 3) := by decide +kernel
theorem dX7_readAll_19 : decode cX7_readAll 19 = .ok (.if_icmp .eq 5, 3) := by decide +kernel
theorem dX7_readAll_22 : decode cX7_readAll 22 = .ok (.iconst 0, 1) := by decide +kernel
theorem dX7_readAll_23 : decode cX7_readAll 23 = .ok (.ireturn, 1) := by decide +kernel
theorem dX7_readAll_24 : decode cX7_readAll 24 = .ok (.aload_n 0, 1) := by decide +kernel
theorem dX7_readAll_25 : decode cX7_readAll 25 = .ok (.dup, 1) := by decide +kernel
theorem dX7_readAll_26 : decode cX7_readAll 26 = .ok (.getfield 27, 3) := by decide +kernel
theorem dX7_readAll_29 : decode cX7_readAll 29 = .ok (.iconst 1, 1) := by decide +kernel
theorem dX7_readAll_30 : decode cX7_readAll 30 = .ok (.iadd, 1) := by decide +kernel
theorem dX7_readAll_31 : decode cX7_readAll 31 = .ok (.putfield 27, 3) := by decide +kernel
theorem dX7_readAll_34 : decode cX7_readAll 34 = .ok (.iinc 2 1, 3) := by decide +kernel
theorem dX7_readAll_37 : decode cX7_readAll 37 = .ok (.goto (-35), 3) := by decide +kernel
theorem dX7_readAll_40 : decode cX7_readAll 40 = .ok (.iconst 1, 1) := by decide +kernel
theorem dX7_readAll_41 : decode cX7_readAll 41 = .ok (.ireturn, 1) := by decide +kernel
set_option maxRecDepth 100000 in
theorem t_Tp_readAll_L2 (hC : CX z ad x cX7_readAll RX7 3 (some .boolean)) (hR : x.2.2.1 = rmk 5 0 0) (n : Nat) (τ : XS) (a1 : Nat) (a2 : Int32) : AT z x 3 (wX z σ) rI (eqA ad) 0 0 0 0 ad 2 [(0, .ref 54), (1, .ref a1), (2, .int a2)] [] τ (Tp_readAll_L2 n τ a1 a2) := by
  revert τ a1 a2
  show ∀ (τ : XS) (a1 : Nat) (a2 : Int32), AT z x 3 (wX z σ) rI (eqA ad) 0 0 0 0 ad 2 [(0, .ref 54), (1, .ref a1), (2, .int a2)] [] τ (Tp_readAll_L2_r n τ a1 a2)
  induction n with
  | zero => intro τ a1 a2; exact at_none
  | succ n hk_2 =>
    intro τ a1 a2
    unfold Tp_readAll_L2_r
    refine at_iload_n (j := 2) hC rfl rfl dX7_readAll_2 ?_
    refine at_aload_n (j := 1) hC rfl rfl dX7_readAll_3 ?_
    refine at_strlen hC hR lkstr_X7_48 dX7_readAll_4 (by decide) (Nat.le_of_ble_eq_true rfl) ⟨Nat.le_refl 0, Nat.le_refl 0⟩ (fun r1 => ?_)
    refine at_icmp_ge (tgt := 40) hC dX7_readAll_7 rfl (fun _ => ?_) (fun _ => ?_)
    · refine at_iconst hC ic_1 dX7_readAll_40 ?_
      exact at_zret (F := eqA ad) (ra := rI) hC nb1 dX7_readAll_41 rfl (Nat.le_refl 0) (Nat.le_refl 0) rfl
    · refine at_aload_n (j := 0) hC rfl rfl dX7_readAll_10 ?_
      refine at_callVpI hC hR lk_X7_30 (c_Tp_next τ) dX7_readAll_11 recX7 rfl rfl ⟨by decide, by decide⟩ (Nat.le_of_ble_eq_true rfl) ⟨Nat.le_refl 0, Nat.le_refl 0⟩ (fun r2 _ => ?_)
      refine at_aload_n (j := 1) hC rfl rfl dX7_readAll_14 ?_
      refine at_iload_n (j := 2) hC rfl rfl dX7_readAll_15 ?_
      refine at_strchar hC hR lkstr_X7_53 dX7_readAll_16 (by decide) (Nat.le_of_ble_eq_true rfl) ⟨Nat.le_refl 0, Nat.le_refl 0⟩ (fun r3 => ?_)
      refine at_icmp_eq (tgt := 24) hC dX7_readAll_19 rfl (fun _ => ?_) (fun _ => ?_)
      · refine at_aload_n (j := 0) hC rfl rfl dX7_readAll_24 ?_
        refine at_dup hC rfl dX7_readAll_25 ?_
        refine gf_X7_27 hC dX7_readAll_26 ?_
        refine at_iconst hC ic_1 dX7_readAll_29 ?_
        refine at_iadd hC dX7_readAll_30 ?_
        refine pf_X7_27 hC dX7_readAll_31 ?_
        refine at_iinc (j := 2) (v := a2 + 1) (lv' := [(2, .int (a2 + 1)), (0, .ref 54), (1, .ref a1)]) hC dX7_readAll_34 rfl rfl (by decide) rfl ?_
        refine at_goto (tgt := 2) hC dX7_readAll_37 rfl ?_
        refine at_drop (lv' := [(0, .ref 54), (1, .ref a1), (2, .int (a2 + 1))]) [1, 2, 0] rfl ?_
        exact hk_2 (xI τ 702 ((τ.1 702) + 1)) a1 (a2 + 1)
      · refine at_iconst hC ic_0 dX7_readAll_22 ?_
        exact at_zret (F := eqA ad) (ra := rI) hC nb0 dX7_readAll_23 rfl (Nat.le_refl 0) (Nat.le_refl 0) rfl
set_option maxRecDepth 100000 in
theorem c_Tp_readAll (τ : XS) (p0 : Nat) : Ct z (wX z σ) rI eqA yX7_readAll cX7_readAll 3 (some .boolean) 5 0 0 [.ref 54, .ref p0] τ (Tp_readAll τ p0) := by
  refine Ct.of (by decide) (Nat.le_of_ble_eq_true rfl) (fun ad x hC hR _ => ?_)
  show AT z x 3 (wX z σ) rI (eqA ad) 0 0 0 0 ad 0 [(0, .ref 54), (1, .ref p0)] [] τ (Tp_readAll τ p0)
  unfold Tp_readAll
  refine at_iconst hC ic_0 dX7_readAll_0 ?_
  refine at_istore_n (lv' := [(2, .int 0), (0, .ref 54), (1, .ref p0)]) hC rfl dX7_readAll_1 (by decide) rfl ?_
  refine at_drop (lv' := [(0, .ref 54), (1, .ref p0), (2, .int 0)]) [1, 2, 0] rfl ?_
  exact t_Tp_readAll_L2 hC hR 100000 τ p0 0
theorem dX7_likeLetters_0 : decode cX7_likeLetters 0 = .ok (.iconst 0, 1) := by decide +kernel
theorem dX7_likeLetters_1 : decode cX7_likeLetters 1 = .ok (.istore 4, 2) := by decide +kernel
theorem dX7_likeLetters_3 : decode cX7_likeLetters 3 = .ok (.iload_n 2, 1) := by decide +kernel
theorem dX7_likeLetters_4 : decode cX7_likeLetters 4 = .ok (.istore 5, 2) := by decide +kernel
theorem dX7_likeLetters_6 : decode cX7_likeLetters 6 = .ok (.iload 5, 2) := by decide +kernel
theorem dX7_likeLetters_8 : decode cX7_likeLetters 8 = .ok (.iload_n 3, 1) := by decide +kernel
theorem dX7_likeLetters_9 : decode cX7_likeLetters 9 = .ok (.if_icmp .ge 47, 3) := by decide +kernel
theorem dX7_likeLetters_12 : decode cX7_likeLetters 12 = .ok (.aload_n 0, 1) := by decide +kernel
theorem dX7_likeLetters_13 : decode cX7_likeLetters 13 = .ok (.getfield 27, 3) := by decide +kernel
theorem dX7_likeLetters_16 : decode cX7_likeLetters 16 = .ok (.iload 4, 2) := by decide +kernel
theorem dX7_likeLetters_18 : decode cX7_likeLetters 18 = .ok (.iadd, 1) := by decide +kernel
theorem dX7_likeLetters_19 : decode cX7_likeLetters 19 = .ok (.aload_n 0, 1) := by decide +kernel
theorem dX7_likeLetters_20 : decode cX7_likeLetters 20 = .ok (.getfield 18, 3) := by decide +kernel
theorem dX7_likeLetters_23 : decode cX7_likeLetters 23 = .ok (.if_icmp .ge 33, 3) := by decide +kernel
theorem dX7_likeLetters_26 : decode cX7_likeLetters 26 = .ok (.aload_n 0, 1) := by decide +kernel
theorem dX7_likeLetters_27 : decode cX7_likeLetters 27 = .ok (.getfield 9, 3) := by decide +kernel
theorem dX7_likeLetters_30 : decode cX7_likeLetters 30 = .ok (.aload_n 0, 1) := by decide +kernel
theorem dX7_likeLetters_31 : decode cX7_likeLetters 31 = .ok (.getfield 27, 3) := by decide +kernel
theorem dX7_likeLetters_34 : decode cX7_likeLetters 34 = .ok (.iload 4, 2) := by decide +kernel
theorem dX7_likeLetters_36 : decode cX7_likeLetters 36 = .ok (.iadd, 1) := by decide +kernel
theorem dX7_likeLetters_37 : decode cX7_likeLetters 37 = .ok (.iaload, 1) := by decide +kernel
theorem dX7_likeLetters_38 : decode cX7_likeLetters 38 = .ok (.aload_n 1, 1) := by decide +kernel
theorem dX7_likeLetters_39 : decode cX7_likeLetters 39 = .ok (.iload 5, 2) := by decide +kernel
theorem dX7_likeLetters_41 : decode cX7_likeLetters 41 = .ok (.invokevirtual 53, 3) := by decide +kernel
theorem dX7_likeLetters_44 : decode cX7_likeLetters 44 = .ok (.if_icmp .ne 12, 3) := by decide +kernel
theorem dX7_likeLetters_47 : decode cX7_likeLetters 47 = .ok (.iinc 4 1, 3) := by decide +kernel
theorem dX7_likeLetters_50 : decode cX7_likeLetters 50 = .ok (.iinc 5 1, 3) := by decide +kernel
theorem dX7_likeLetters_53 : decode cX7_likeLetters 53 = .ok (.goto (-47), 3) := by decide +kernel
theorem dX7_likeLetters_56 : decode cX7_likeLetters 56 = .ok (.iload 4, 2) := by decide +kernel
theorem dX7_likeLetters_58 : decode cX7_likeLetters 58 = .ok (.ireturn, 1) := by decide +kernel
set_option maxRecDepth 100000 in
theorem t_Tp_likeLetters_L6 (hC : CX z ad x cX7_likeLetters RX7 6 (some .int)) (hR : x.2.2.1 = rmk 5 0 0) (τ : XS) (n : Nat) (a1 : Nat) (a3 : Int32) (a4 : Int32) (a5 : Int32) : AT z x 6 (wX z σ) rI (eqA ad) 0 0 0 0 ad 6 [(0, .ref 54), (1, .ref a1), (3, .int a3), (4, .int a4), (5, .int a5)] [] τ ((Tp_likeLetters_L6 n τ a1 a3 a4 a5).map fun r => (r, τ)) := by
  revert a1 a3 a4 a5
  show ∀ (a1 : Nat) (a3 : Int32) (a4 : Int32) (a5 : Int32), AT z x 6 (wX z σ) rI (eqA ad) 0 0 0 0 ad 6 [(0, .ref 54), (1, .ref a1), (3, .int a3), (4, .int a4), (5, .int a5)] [] τ ((Tp_likeLetters_L6_r τ n a1 a3 a4 a5).map fun r => (r, τ))
  induction n with
  | zero => intro a1 a3 a4 a5; exact ap_none
  | succ n hk_6 =>
    intro a1 a3 a4 a5
    unfold Tp_likeLetters_L6_r
    refine at_iload (j := 4) hC rfl dX7_likeLetters_6 ?_
    refine at_iload_n (j := 2) hC rfl rfl dX7_likeLetters_8 ?_
    refine ap_icmp_ge (tgt := 56) hC dX7_likeLetters_9 rfl (fun _ => ?_) (fun _ => ?_)
    · refine at_iload (j := 3) hC rfl dX7_likeLetters_56 ?_
      exact at_iret (F := eqA ad) (ra := rI) hC dX7_likeLetters_58 rfl (Nat.le_refl 0) (Nat.le_refl 0) rfl
    · refine at_aload_n (j := 0) hC rfl rfl dX7_likeLetters_12 ?_
      refine gf_X7_27 hC dX7_likeLetters_13 ?_
      refine at_iload (j := 3) hC rfl dX7_likeLetters_16 ?_
      refine at_iadd hC dX7_likeLetters_18 ?_
      refine at_aload_n (j := 0) hC rfl rfl dX7_likeLetters_19 ?_
      refine gf_X7_18 hC dX7_likeLetters_20 ?_
      refine ap_icmp_ge (tgt := 56) hC dX7_likeLetters_23 rfl (fun _ => ?_) (fun _ => ?_)
      · refine at_iload (j := 3) hC rfl dX7_likeLetters_56 ?_
        exact at_iret (F := eqA ad) (ra := rI) hC dX7_likeLetters_58 rfl (Nat.le_refl 0) (Nat.le_refl 0) rfl
      · refine at_aload_n (j := 0) hC rfl rfl dX7_likeLetters_26 ?_
        refine gf_X7_9 hC dX7_likeLetters_27 ?_
        refine at_aload_n (j := 0) hC rfl rfl dX7_likeLetters_30 ?_
        refine gf_X7_27 hC dX7_likeLetters_31 ?_
        refine at_iload (j := 3) hC rfl dX7_likeLetters_34 ?_
        refine at_iadd hC dX7_likeLetters_36 ?_
        refine ap_iald hC 55 dX7_likeLetters_37 cl_55 (fun v1 => ?_)
        refine at_aload_n (j := 1) hC rfl rfl dX7_likeLetters_38 ?_
        refine at_iload (j := 4) hC rfl dX7_likeLetters_39 ?_
        refine ap_strchar hC hR lkstr_X7_53 dX7_likeLetters_41 (by decide) (Nat.le_of_ble_eq_true rfl) ⟨Nat.le_refl 0, Nat.le_refl 0⟩ (fun r2 => ?_)
        refine ap_icmp_ne (tgt := 56) hC dX7_likeLetters_44 rfl (fun _ => ?_) (fun _ => ?_)
        · refine at_iload (j := 3) hC rfl dX7_likeLetters_56 ?_
          exact at_iret (F := eqA ad) (ra := rI) hC dX7_likeLetters_58 rfl (Nat.le_refl 0) (Nat.le_refl 0) rfl
        · refine at_iinc (j := 3) (v := a4 + 1) (lv' := [(4, .int (a4 + 1)), (0, .ref 54), (1, .ref a1), (3, .int a3), (5, .int a5)]) hC dX7_likeLetters_47 rfl rfl (by decide) rfl ?_
          refine at_iinc (j := 4) (v := a5 + 1) (lv' := [(5, .int (a5 + 1)), (4, .int (a4 + 1)), (0, .ref 54), (1, .ref a1), (3, .int a3)]) hC dX7_likeLetters_50 rfl rfl (by decide) rfl ?_
          refine at_goto (tgt := 6) hC dX7_likeLetters_53 rfl ?_
          refine at_drop (lv' := [(0, .ref 54), (1, .ref a1), (3, .int a3), (4, .int (a4 + 1)), (5, .int (a5 + 1))]) [2, 3, 4, 1, 0] rfl ?_
          exact hk_6 a1 a3 (a4 + 1) (a5 + 1)
set_option maxRecDepth 100000 in
theorem c_Tp_likeLetters (τ : XS) (p0 : Nat) (p1 : Int32) (p2 : Int32) : Ct z (wX z σ) rI eqA yX7_likeLetters cX7_likeLetters 6 (some .int) 5 0 0 [.ref 54, .ref p0, .int p1, .int p2] τ ((Tp_likeLetters τ p0 p1 p2).map fun r => (r, τ)) := by
  refine Ct.of (by decide) (Nat.le_of_ble_eq_true rfl) (fun ad x hC hR _ => ?_)
  show AT z x 6 (wX z σ) rI (eqA ad) 0 0 0 0 ad 0 [(0, .ref 54), (1, .ref p0), (2, .int p1), (3, .int p2)] [] τ ((Tp_likeLetters τ p0 p1 p2).map fun r => (r, τ))
  unfold Tp_likeLetters
  refine at_iconst hC ic_0 dX7_likeLetters_0 ?_
  refine at_istore (lv' := [(4, .int 0), (0, .ref 54), (1, .ref p0), (2, .int p1), (3, .int p2)]) hC dX7_likeLetters_1 (by decide) rfl ?_
  refine at_iload_n (j := 3) hC rfl rfl dX7_likeLetters_3 ?_
  refine at_istore (lv' := [(5, .int p1), (4, .int 0), (0, .ref 54), (1, .ref p0), (2, .int p1), (3, .int p2)]) hC dX7_likeLetters_4 (by decide) rfl ?_
  refine at_drop (lv' := [(0, .ref 54), (1, .ref p0), (3, .int p2), (4, .int 0), (5, .int p1)]) [2, 3, 5, 1, 0] rfl ?_
  exact t_Tp_likeLetters_L6 hC hR τ 100000 p0 p2 0 p1
theorem dX7_readWord_0 : decode cX7_readWord 0 = .ok (.iconst 0, 1) := by decide +kernel
theorem dX7_readWord_1 : decode cX7_readWord 1 = .ok (.istore_n 2, 1) := by decide +kernel
theorem dX7_readWord_2 : decode cX7_readWord 2 = .ok (.iconst (-1), 1) := by decide +kernel
theorem dX7_readWord_3 : decode cX7_readWord 3 = .ok (.istore_n 3, 1) := by decide +kernel
theorem dX7_readWord_4 : decode cX7_readWord 4 = .ok (.iconst 0, 1) := by decide +kernel
theorem dX7_readWord_5 : decode cX7_readWord 5 = .ok (.istore 4, 2) := by decide +kernel
theorem dX7_readWord_7 : decode cX7_readWord 7 = .ok (.iconst 0, 1) := by decide +kernel
theorem dX7_readWord_8 : decode cX7_readWord 8 = .ok (.istore 5, 2) := by decide +kernel
theorem dX7_readWord_10 : decode cX7_readWord 10 = .ok (.iconst 0, 1) := by decide +kernel
theorem dX7_readWord_11 : decode cX7_readWord 11 = .ok (.istore 6, 2) := by decide +kernel
theorem dX7_readWord_13 : decode cX7_readWord 13 = .ok (.iload 6, 2) := by decide +kernel
theorem dX7_readWord_15 : decode cX7_readWord 15 = .ok (.aload_n 1, 1) := by decide +kernel
theorem dX7_readWord_16 : decode cX7_readWord 16 = .ok (.invokevirtual 48, 3) := by decide +kernel
theorem dX7_readWord_19 : decode cX7_readWord 19 = .ok (.if_icmp .ge 73, 3) := by decide +kernel
theorem dX7_readWord_22 : decode cX7_readWord 22 = .ok (.aload_n 1, 1) := by decide +kernel
theorem dX7_readWord_23 : decode cX7_readWord 23 = .ok (.iload 6, 2) := by decide +kernel
theorem dX7_readWord_25 : decode cX7_readWord 25 = .ok (.invokevirtual 53, 3) := by decide +kernel
theorem dX7_readWord_28 : decode cX7_readWord 28 = .ok (.bipush 32, 2) := by decide +kernel
theorem dX7_readWord_30 : decode cX7_readWord 30 = .ok (.if_icmp .eq 6, 3) := by decide +kernel
theorem dX7_readWord_33 : decode cX7_readWord 33 = .ok (.goto 53, 3) := by decide +kernel
theorem dX7_readWord_36 : decode cX7_readWord 36 = .ok (.aload_n 0, 1) := by decide +kernel
theorem dX7_readWord_37 : decode cX7_readWord 37 = .ok (.aload_n 1, 1) := by decide +kernel
theorem dX7_readWord_38 : decode cX7_readWord 38 = .ok (.iload 5, 2) := by decide +kernel
theorem dX7_readWord_40 : decode cX7_readWord 40 = .ok (.iload 6, 2) := by decide +kernel
theorem dX7_readWord_42 : decode cX7_readWord 42 = .ok (.invokevirtual 121, 3) := by decide +kernel
theorem dX7_readWord_45 : decode cX7_readWord 45 = .ok (.istore 7, 2) := by decide +kernel
theorem dX7_readWord_47 : decode cX7_readWord 47 = .ok (.iload 7, 2) := by decide +kernel
theorem dX7_readWord_49 : decode cX7_readWord 49 = .ok (.iload_n 2, 1) := by decide +kernel
theorem dX7_readWord_50 : decode cX7_readWord 50 = .ok (.if_icmp .le 8, 3) := by decide +kernel
theorem dX7_readWord_53 : decode cX7_readWord 53 = .ok (.iload 7, 2) := by decide +kernel
theorem dX7_readWord_55 : decode cX7_readWord 55 = .ok (.istore_n 2, 1) := by decide +kernel
theorem dX7_readWord_56 : decode cX7_readWord 56 = .ok (.iconst (-1), 1) := by decide +kernel
theorem dX7_readWord_57 : decode cX7_readWord 57 = .ok (.istore_n 3, 1) := by decide +kernel
theorem dX7_readWord_58 : decode cX7_readWord 58 = .ok (.iload 7, 2) := by decide +kernel
theorem dX7_readWord_60 : decode cX7_readWord 60 = .ok (.iload_n 2, 1) := by decide +kernel
theorem dX7_readWord_61 : decode cX7_readWord 61 = .ok (.if_icmp .ne 16, 3) := by decide +kernel
theorem dX7_readWord_64 : decode cX7_readWord 64 = .ok (.iload 7, 2) := by decide +kernel
theorem dX7_readWord_66 : decode cX7_readWord 66 = .ok (.iload 6, 2) := by decide +kernel
theorem dX7_readWord_68 : decode cX7_readWord 68 = .ok (.iload 5, 2) := by decide +kernel
theorem dX7_readWord_70 : decode cX7_readWord 70 = .ok (.isub, 1) := by decide +kernel
theorem dX7_readWord_71 : decode cX7_readWord 71 = .ok (.if_icmp .ne 6, 3) := by decide +kernel
theorem dX7_readWord_74 : decode cX7_readWord 74 = .ok (.iload 4, 2) := by decide +kernel
theorem dX7_readWord_76 : decode cX7_readWord 76 = .ok (.istore_n 3, 1) := by decide +kernel
theorem dX7_readWord_77 : decode cX7_readWord 77 = .ok (.iinc 4 1, 3) := by decide +kernel
theorem dX7_readWord_80 : decode cX7_readWord 80 = .ok (.iload 6, 2) := by decide +kernel
theorem dX7_readWord_82 : decode cX7_readWord 82 = .ok (.iconst 1, 1) := by decide +kernel
theorem dX7_readWord_83 : decode cX7_readWord 83 = .ok (.iadd, 1) := by decide +kernel
theorem dX7_readWord_84 : decode cX7_readWord 84 = .ok (.istore 5, 2) := by decide +kernel
theorem dX7_readWord_86 : decode cX7_readWord 86 = .ok (.iinc 6 1, 3) := by decide +kernel
theorem dX7_readWord_89 : decode cX7_readWord 89 = .ok (.goto (-76), 3) := by decide +kernel
theorem dX7_readWord_92 : decode cX7_readWord 92 = .ok (.aload_n 0, 1) := by decide +kernel
theorem dX7_readWord_93 : decode cX7_readWord 93 = .ok (.dup, 1) := by decide +kernel
theorem dX7_readWord_94 : decode cX7_readWord 94 = .ok (.getfield 27, 3) := by decide +kernel
theorem dX7_readWord_97 : decode cX7_readWord 97 = .ok (.iload_n 2, 1) := by decide +kernel
theorem dX7_readWord_98 : decode cX7_readWord 98 = .ok (.iadd, 1) := by decide +kernel
theorem dX7_readWord_99 : decode cX7_readWord 99 = .ok (.putfield 27, 3) := by decide +kernel
theorem dX7_readWord_102 : decode cX7_readWord 102 = .ok (.iload_n 3, 1) := by decide +kernel
theorem dX7_readWord_103 : decode cX7_readWord 103 = .ok (.ireturn, 1) := by decide +kernel
set_option maxRecDepth 100000 in
theorem t_Tp_readWord_J86 (hC : CX z ad x cX7_readWord RX7 8 (some .int)) (hR : x.2.2.1 = rmk 6 0 0) (k_13 : XS → Nat → Int32 → Int32 → Int32 → Int32 → Int32 → Option (Int32 × XS)) (hk_13 : ∀ (τ : XS) (a1 : Nat) (a2 : Int32) (a3 : Int32) (a4 : Int32) (a5 : Int32) (a6 : Int32), AT z x 8 (wX z σ) rI (eqA ad) 0 0 0 0 ad 13 [(0, .ref 54), (1, .ref a1), (2, .int a2), (3, .int a3), (4, .int a4), (5, .int a5), (6, .int a6)] [] τ (k_13 τ a1 a2 a3 a4 a5 a6)) (τ : XS) (a1 : Nat) (a2 : Int32) (a3 : Int32) (a4 : Int32) (a5 : Int32) (a6 : Int32) : AT z x 8 (wX z σ) rI (eqA ad) 0 0 0 0 ad 86 [(0, .ref 54), (1, .ref a1), (2, .int a2), (3, .int a3), (4, .int a4), (5, .int a5), (6, .int a6)] [] τ (Tp_readWord_J86 k_13 τ a1 a2 a3 a4 a5 a6) := by
  unfold Tp_readWord_J86
  refine at_iinc (j := 6) (v := a6 + 1) (lv' := [(6, .int (a6 + 1)), (0, .ref 54), (1, .ref a1), (2, .int a2), (3, .int a3), (4, .int a4), (5, .int a5)]) hC dX7_readWord_86 rfl rfl (by decide) rfl ?_
  refine at_goto (tgt := 13) hC dX7_readWord_89 rfl ?_
  refine at_drop (lv' := [(0, .ref 54), (1, .ref a1), (2, .int a2), (3, .int a3), (4, .int a4), (5, .int a5), (6, .int (a6 + 1))]) [1, 2, 3, 4, 5, 6, 0] rfl ?_
  exact hk_13 τ a1 a2 a3 a4 a5 (a6 + 1)
set_option maxRecDepth 100000 in
theorem t_Tp_readWord_J77 (hC : CX z ad x cX7_readWord RX7 8 (some .int)) (hR : x.2.2.1 = rmk 6 0 0) (k_13 : XS → Nat → Int32 → Int32 → Int32 → Int32 → Int32 → Option (Int32 × XS)) (hk_13 : ∀ (τ : XS) (a1 : Nat) (a2 : Int32) (a3 : Int32) (a4 : Int32) (a5 : Int32) (a6 : Int32), AT z x 8 (wX z σ) rI (eqA ad) 0 0 0 0 ad 13 [(0, .ref 54), (1, .ref a1), (2, .int a2), (3, .int a3), (4, .int a4), (5, .int a5), (6, .int a6)] [] τ (k_13 τ a1 a2 a3 a4 a5 a6)) (τ : XS) (a1 : Nat) (a2 : Int32) (a3 : Int32) (a4 : Int32) (a6 : Int32) : AT z x 8 (wX z σ) rI (eqA ad) 0 0 0 0 ad 77 [(0, .ref 54), (1, .ref a1), (2, .int a2), (3, .int a3), (4, .int a4), (6, .int a6)] [] τ (Tp_readWord_J77 k_13 τ a1 a2 a3 a4 a6) := by
  unfold Tp_readWord_J77
  refine at_iinc (j := 4) (v := a4 + 1) (lv' := [(4, .int (a4 + 1)), (0, .ref 54), (1, .ref a1), (2, .int a2), (3, .int a3), (6, .int a6)]) hC dX7_readWord_77 rfl rfl (by decide) rfl ?_
  refine at_iload (j := 5) hC rfl dX7_readWord_80 ?_
  refine at_iconst hC ic_1 dX7_readWord_82 ?_
  refine at_iadd hC dX7_readWord_83 ?_
  refine at_istore (lv' := [(5, .int (a6 + 1)), (4, .int (a4 + 1)), (0, .ref 54), (1, .ref a1), (2, .int a2), (3, .int a3), (6, .int a6)]) hC dX7_readWord_84 (by decide) rfl ?_
  refine at_drop (lv' := [(0, .ref 54), (1, .ref a1), (2, .int a2), (3, .int a3), (4, .int (a4 + 1)), (5, .int (a6 + 1)), (6, .int a6)]) [2, 3, 4, 5, 1, 0, 6] rfl ?_
  exact t_Tp_readWord_J86 hC hR k_13 hk_13 τ a1 a2 a3 (a4 + 1) (a6 + 1) a6
set_option maxRecDepth 100000 in
theorem t_Tp_readWord_J58 (hC : CX z ad x cX7_readWord RX7 8 (some .int)) (hR : x.2.2.1 = rmk 6 0 0) (k_13 : XS → Nat → Int32 → Int32 → Int32 → Int32 → Int32 → Option (Int32 × XS)) (hk_13 : ∀ (τ : XS) (a1 : Nat) (a2 : Int32) (a3 : Int32) (a4 : Int32) (a5 : Int32) (a6 : Int32), AT z x 8 (wX z σ) rI (eqA ad) 0 0 0 0 ad 13 [(0, .ref 54), (1, .ref a1), (2, .int a2), (3, .int a3), (4, .int a4), (5, .int a5), (6, .int a6)] [] τ (k_13 τ a1 a2 a3 a4 a5 a6)) (τ : XS) (a1 : Nat) (a2 : Int32) (a3 : Int32) (a4 : Int32) (a5 : Int32) (a6 : Int32) (a7 : Int32) : AT z x 8 (wX z σ) rI (eqA ad) 0 0 0 0 ad 58 [(0, .ref 54), (1, .ref a1), (2, .int a2), (3, .int a3), (4, .int a4), (5, .int a5), (6, .int a6), (7, .int a7)] [] τ (Tp_readWord_J58 k_13 τ a1 a2 a3 a4 a5 a6 a7) := by
  unfold Tp_readWord_J58
  refine at_iload (j := 7) hC rfl dX7_readWord_58 ?_
  refine at_iload_n (j := 2) hC rfl rfl dX7_readWord_60 ?_
  refine at_icmp_ne (tgt := 77) hC dX7_readWord_61 rfl (fun _ => ?_) (fun _ => ?_)
  · refine at_drop (lv' := [(0, .ref 54), (1, .ref a1), (2, .int a2), (3, .int a3), (4, .int a4), (6, .int a6)]) [0, 1, 2, 3, 4, 6] rfl ?_
    exact t_Tp_readWord_J77 hC hR k_13 hk_13 τ a1 a2 a3 a4 a6
  · refine at_iload (j := 7) hC rfl dX7_readWord_64 ?_
    refine at_iload (j := 6) hC rfl dX7_readWord_66 ?_
    refine at_iload (j := 5) hC rfl dX7_readWord_68 ?_
    refine at_isub hC dX7_readWord_70 ?_
    refine at_icmp_ne (tgt := 77) hC dX7_readWord_71 rfl (fun _ => ?_) (fun _ => ?_)
    · refine at_drop (lv' := [(0, .ref 54), (1, .ref a1), (2, .int a2), (3, .int a3), (4, .int a4), (6, .int a6)]) [0, 1, 2, 3, 4, 6] rfl ?_
      exact t_Tp_readWord_J77 hC hR k_13 hk_13 τ a1 a2 a3 a4 a6
    · refine at_iload (j := 4) hC rfl dX7_readWord_74 ?_
      refine at_istore_n (lv' := [(3, .int a4), (0, .ref 54), (1, .ref a1), (2, .int a2), (4, .int a4), (5, .int a5), (6, .int a6), (7, .int a7)]) hC rfl dX7_readWord_76 (by decide) rfl ?_
      refine at_drop (lv' := [(0, .ref 54), (1, .ref a1), (2, .int a2), (3, .int a4), (4, .int a4), (6, .int a6)]) [1, 2, 3, 0, 4, 6] rfl ?_
      exact t_Tp_readWord_J77 hC hR k_13 hk_13 τ a1 a2 a4 a4 a6
set_option maxRecDepth 100000 in
theorem t_Tp_readWord_L13 (hC : CX z ad x cX7_readWord RX7 8 (some .int)) (hR : x.2.2.1 = rmk 6 0 0) (n : Nat) (τ : XS) (a1 : Nat) (a2 : Int32) (a3 : Int32) (a4 : Int32) (a5 : Int32) (a6 : Int32) : AT z x 8 (wX z σ) rI (eqA ad) 0 0 0 0 ad 13 [(0, .ref 54), (1, .ref a1), (2, .int a2), (3, .int a3), (4, .int a4), (5, .int a5), (6, .int a6)] [] τ (Tp_readWord_L13 n τ a1 a2 a3 a4 a5 a6) := by
  revert τ a1 a2 a3 a4 a5 a6
  show ∀ (τ : XS) (a1 : Nat) (a2 : Int32) (a3 : Int32) (a4 : Int32) (a5 : Int32) (a6 : Int32), AT z x 8 (wX z σ) rI (eqA ad) 0 0 0 0 ad 13 [(0, .ref 54), (1, .ref a1), (2, .int a2), (3, .int a3), (4, .int a4), (5, .int a5), (6, .int a6)] [] τ (Tp_readWord_L13_r n τ a1 a2 a3 a4 a5 a6)
  induction n with
  | zero => intro τ a1 a2 a3 a4 a5 a6; exact at_none
  | succ n hk_13 =>
    intro τ a1 a2 a3 a4 a5 a6
    unfold Tp_readWord_L13_r
    refine at_iload (j := 6) hC rfl dX7_readWord_13 ?_
    refine at_aload_n (j := 1) hC rfl rfl dX7_readWord_15 ?_
    refine at_strlen hC hR lkstr_X7_48 dX7_readWord_16 (by decide) (Nat.le_of_ble_eq_true rfl) ⟨Nat.le_refl 0, Nat.le_refl 0⟩ (fun r1 => ?_)
    refine at_icmp_ge (tgt := 92) hC dX7_readWord_19 rfl (fun _ => ?_) (fun _ => ?_)
    · refine at_aload_n (j := 0) hC rfl rfl dX7_readWord_92 ?_
      refine at_dup hC rfl dX7_readWord_93 ?_
      refine gf_X7_27 hC dX7_readWord_94 ?_
      refine at_iload_n (j := 2) hC rfl rfl dX7_readWord_97 ?_
      refine at_iadd hC dX7_readWord_98 ?_
      refine pf_X7_27 hC dX7_readWord_99 ?_
      refine at_iload_n (j := 3) hC rfl rfl dX7_readWord_102 ?_
      exact at_iret (F := eqA ad) (ra := rI) hC dX7_readWord_103 rfl (Nat.le_refl 0) (Nat.le_refl 0) rfl
    · refine at_aload_n (j := 1) hC rfl rfl dX7_readWord_22 ?_
      refine at_iload (j := 6) hC rfl dX7_readWord_23 ?_
      refine at_strchar hC hR lkstr_X7_53 dX7_readWord_25 (by decide) (Nat.le_of_ble_eq_true rfl) ⟨Nat.le_refl 0, Nat.le_refl 0⟩ (fun r2 => ?_)
      refine at_bipush hC bi_32 dX7_readWord_28 ?_
      refine at_icmp_eq (tgt := 36) hC dX7_readWord_30 rfl (fun _ => ?_) (fun _ => ?_)
      · refine at_aload_n (j := 0) hC rfl rfl dX7_readWord_36 ?_
        refine at_aload_n (j := 1) hC rfl rfl dX7_readWord_37 ?_
        refine at_iload (j := 5) hC rfl dX7_readWord_38 ?_
        refine at_iload (j := 6) hC rfl dX7_readWord_40 ?_
        refine at_callVpI hC hR lk_X7_121 (c_Tp_likeLetters τ a1 a5 a6) dX7_readWord_42 recX7 rfl rfl ⟨by decide, by decide⟩ (Nat.le_of_ble_eq_true rfl) ⟨Nat.le_refl 0, Nat.le_refl 0⟩ (fun r3 _ => ?_)
        refine at_istore (lv' := [(7, .int r3), (0, .ref 54), (1, .ref a1), (2, .int a2), (3, .int a3), (4, .int a4), (5, .int a5), (6, .int a6)]) hC dX7_readWord_45 (by decide) rfl ?_
        refine at_iload (j := 0) hC rfl dX7_readWord_47 ?_
        refine at_iload_n (j := 3) hC rfl rfl dX7_readWord_49 ?_
        refine at_icmp_le (tgt := 58) hC dX7_readWord_50 rfl (fun _ => ?_) (fun _ => ?_)
        · refine at_drop (lv' := [(0, .ref 54), (1, .ref a1), (2, .int a2), (3, .int a3), (4, .int a4), (5, .int a5), (6, .int a6), (7, .int r3)]) [1, 2, 3, 4, 5, 6, 7, 0] rfl ?_
          exact t_Tp_readWord_J58 hC hR (Tp_readWord_L13_r n) hk_13 τ a1 a2 a3 a4 a5 a6 r3
        · refine at_iload (j := 0) hC rfl dX7_readWord_53 ?_
          refine at_istore_n (lv' := [(2, .int r3), (7, .int r3), (0, .ref 54), (1, .ref a1), (3, .int a3), (4, .int a4), (5, .int a5), (6, .int a6)]) hC rfl dX7_readWord_55 (by decide) rfl ?_
          refine at_iconst hC ic_m1 dX7_readWord_56 ?_
          refine at_istore_n (lv' := [(3, .int (-1)), (2, .int r3), (7, .int r3), (0, .ref 54), (1, .ref a1), (4, .int a4), (5, .int a5), (6, .int a6)]) hC rfl dX7_readWord_57 (by decide) rfl ?_
          refine at_drop (lv' := [(0, .ref 54), (1, .ref a1), (2, .int r3), (3, .int (-1)), (4, .int a4), (5, .int a5), (6, .int a6), (7, .int r3)]) [3, 4, 1, 0, 5, 6, 7, 2] rfl ?_
          exact t_Tp_readWord_J58 hC hR (Tp_readWord_L13_r n) hk_13 τ a1 r3 (-1) a4 a5 a6 r3
      · refine at_goto (tgt := 86) hC dX7_readWord_33 rfl ?_
        exact t_Tp_readWord_J86 hC hR (Tp_readWord_L13_r n) hk_13 τ a1 a2 a3 a4 a5 a6
set_option maxRecDepth 100000 in
theorem c_Tp_readWord (τ : XS) (p0 : Nat) : Ct z (wX z σ) rI eqA yX7_readWord cX7_readWord 8 (some .int) 6 0 0 [.ref 54, .ref p0] τ (Tp_readWord τ p0) := by
  refine Ct.of (by decide) (Nat.le_of_ble_eq_true rfl) (fun ad x hC hR _ => ?_)
  show AT z x 8 (wX z σ) rI (eqA ad) 0 0 0 0 ad 0 [(0, .ref 54), (1, .ref p0)] [] τ (Tp_readWord τ p0)
  unfold Tp_readWord
  refine at_iconst hC ic_0 dX7_readWord_0 ?_
  refine at_istore_n (lv' := [(2, .int 0), (0, .ref 54), (1, .ref p0)]) hC rfl dX7_readWord_1 (by decide) rfl ?_
  refine at_iconst hC ic_m1 dX7_readWord_2 ?_
  refine at_istore_n (lv' := [(3, .int (-1)), (2, .int 0), (0, .ref 54), (1, .ref p0)]) hC rfl dX7_readWord_3 (by decide) rfl ?_
  refine at_iconst hC ic_0 dX7_readWord_4 ?_
  refine at_istore (lv' := [(4, .int 0), (3, .int (-1)), (2, .int 0), (0, .ref 54), (1, .ref p0)]) hC dX7_readWord_5 (by decide) rfl ?_
  refine at_iconst hC ic_0 dX7_readWord_7 ?_
  refine at_istore (lv' := [(5, .int 0), (4, .int 0), (3, .int (-1)), (2, .int 0), (0, .ref 54), (1, .ref p0)]) hC dX7_readWord_8 (by decide) rfl ?_
  refine at_iconst hC ic_0 dX7_readWord_10 ?_
  refine at_istore (lv' := [(6, .int 0), (5, .int 0), (4, .int 0), (3, .int (-1)), (2, .int 0), (0, .ref 54), (1, .ref p0)]) hC dX7_readWord_11 (by decide) rfl ?_
  refine at_drop (lv' := [(0, .ref 54), (1, .ref p0), (2, .int 0), (3, .int (-1)), (4, .int 0), (5, .int 0), (6, .int 0)]) [5, 6, 4, 3, 2, 1, 0] rfl ?_
  exact t_Tp_readWord_L13 hC hR 100000 τ p0 0 (-1) 0 0 0
end G
