section G
variable {z : ZZ} {x : XX} {ad : Nat → Nat} {τ : XS}
theorem dX11_ruled_0 : decode cX11_ruled 0 = .ok (.aload_n 0, 1) := by decide +kernel
theorem dX11_ruled_1 : decode cX11_ruled 1 = .ok (.iload_n 2, 1) := by decide +kernel
theorem dX11_ruled_2 : decode cX11_ruled 2 = .ok (.iload_n 3, 1) := by decide +kernel
theorem dX11_ruled_3 : decode cX11_ruled 3 = .ok (.invokevirtual 341, 3) := by decide +kernel
theorem dX11_ruled_6 : decode cX11_ruled 6 = .ok (.aload_n 0, 1) := by decide +kernel
theorem dX11_ruled_7 : decode cX11_ruled 7 = .ok (.iload_n 1, 1) := by decide +kernel
theorem dX11_ruled_8 : decode cX11_ruled 8 = .ok (.iload 4, 2) := by decide +kernel
theorem dX11_ruled_10 : decode cX11_ruled 10 = .ok (.invokevirtual 344, 3) := by decide +kernel
theorem dX11_ruled_13 : decode cX11_ruled 13 = .ok (.istore 5, 2) := by decide +kernel
theorem dX11_ruled_15 : decode cX11_ruled 15 = .ok (.iload 5, 2) := by decide +kernel
theorem dX11_ruled_17 : decode cX11_ruled 17 = .ok (.iconst (-1), 1) := by decide +kernel
theorem dX11_ruled_18 : decode cX11_ruled 18 = .ok (.if_icmp .eq 20, 3) := by decide +kernel
theorem dX11_ruled_21 : decode cX11_ruled 21 = .ok (.aload_n 0, 1) := by decide +kernel
theorem dX11_ruled_22 : decode cX11_ruled 22 = .ok (.iload 5, 2) := by decide +kernel
theorem dX11_ruled_24 : decode cX11_ruled 24 = .ok (.bipush 8, 2) := by decide +kernel
theorem dX11_ruled_26 : decode cX11_ruled 26 = .ok (.idiv, 1) := by decide +kernel
theorem dX11_ruled_27 : decode cX11_ruled 27 = .ok (.iload 5, 2) := by decide +kernel
theorem dX11_ruled_29 : decode cX11_ruled 29 = .ok (.bipush 8, 2) := by decide +kernel
theorem dX11_ruled_31 : decode cX11_ruled 31 = .ok (.irem, 1) := by decide +kernel
theorem dX11_ruled_32 : decode cX11_ruled 32 = .ok (.invokevirtual 347, 3) := by decide +kernel
theorem dX11_ruled_35 : decode cX11_ruled 35 = .ok (.goto 26, 3) := by decide +kernel
theorem dX11_ruled_38 : decode cX11_ruled 38 = .ok (.iload_n 1, 1) := by decide +kernel
theorem dX11_ruled_39 : decode cX11_ruled 39 = .ok (.bipush 7, 2) := by decide +kernel
theorem dX11_ruled_41 : decode cX11_ruled 41 = .ok (.if_icmp .ne 8, 3) := by decide +kernel
theorem dX11_ruled_44 : decode cX11_ruled 44 = .ok (.bipush 18, 2) := by decide +kernel
theorem dX11_ruled_46 : decode cX11_ruled 46 = .ok (.goto 15, 3) := by decide +kernel
theorem dX11_ruled_49 : decode cX11_ruled 49 = .ok (.iload_n 1, 1) := by decide +kernel
theorem dX11_ruled_50 : decode cX11_ruled 50 = .ok (.bipush 8, 2) := by decide +kernel
theorem dX11_ruled_52 : decode cX11_ruled 52 = .ok (.if_icmp .ne 8, 3) := by decide +kernel
theorem dX11_ruled_55 : decode cX11_ruled 55 = .ok (.bipush 40, 2) := by decide +kernel
theorem dX11_ruled_57 : decode cX11_ruled 57 = .ok (.goto 4, 3) := by decide +kernel
theorem dX11_ruled_60 : decode cX11_ruled 60 = .ok (.iconst 0, 1) := by decide +kernel
theorem dX11_ruled_61 : decode cX11_ruled 61 = .ok (.istore 6, 2) := by decide +kernel
theorem dX11_ruled_63 : decode cX11_ruled 63 = .ok (.iload 6, 2) := by decide +kernel
theorem dX11_ruled_65 : decode cX11_ruled 65 = .ok (.ireturn, 1) := by decide +kernel
set_option maxRecDepth 100000 in
theorem t_M_ruled_J61 (hC : CX z ad x cX11_ruled RX11 7 (some .int)) (hR : x.2.2.1 = rmk 617 0 0) (σ : MS) (s0 : Int32) : AT z x 7 (wM z τ) rI (eqA ad) 0 0 0 0 ad 61 [] [.int s0] σ (M_ruled_J61 σ s0) := by
  unfold M_ruled_J61
  refine at_istore (lv' := [(6, .int s0)]) hC dX11_ruled_61 (by decide) rfl ?_
  refine at_iload (j := 0) hC rfl dX11_ruled_63 ?_
  exact at_iret (F := eqA ad) (ra := rI) hC dX11_ruled_65 rfl (Nat.le_refl 0) (Nat.le_refl 0) rfl
set_option maxRecDepth 100000 in
theorem c_M_ruled (σ : MS) (p0 : Int32) (p1 : Int32) (p2 : Int32) (p3 : Int32) : Ct z (wM z τ) rI eqA yX11_ruled cX11_ruled 7 (some .int) 617 0 0 [.ref 0, .int p0, .int p1, .int p2, .int p3] σ (M_ruled σ p0 p1 p2 p3) := by
  refine Ct.of (by decide) (Nat.le_of_ble_eq_true rfl) (fun ad x hC hR _ => ?_)
  show AT z x 7 (wM z τ) rI (eqA ad) 0 0 0 0 ad 0 [(0, .ref 0), (1, .int p0), (2, .int p1), (3, .int p2), (4, .int p3)] [] σ (M_ruled σ p0 p1 p2 p3)
  unfold M_ruled
  refine at_aload_n (j := 0) hC rfl rfl dX11_ruled_0 ?_
  refine at_iload_n (j := 2) hC rfl rfl dX11_ruled_1 ?_
  refine at_iload_n (j := 3) hC rfl rfl dX11_ruled_2 ?_
  refine at_callVU hC hR lk_X11_341 (c_M_namesOf σ p1 p2) dX11_ruled_3 recX11 rfl rfl ⟨by decide, by decide⟩ (Nat.le_of_ble_eq_true rfl) ⟨Nat.le_refl 0, Nat.le_refl 0⟩ (fun r1 r1s _ => ?_)
  refine at_aload_n (j := 0) hC rfl rfl dX11_ruled_6 ?_
  refine at_iload_n (j := 1) hC rfl rfl dX11_ruled_7 ?_
  refine at_iload (j := 4) hC rfl dX11_ruled_8 ?_
  refine at_callVI hC hR lk_X11_344 (c_M_governs r1s p0 p3) dX11_ruled_10 recX11 rfl rfl ⟨by decide, by decide⟩ (Nat.le_of_ble_eq_true rfl) ⟨Nat.le_refl 0, Nat.le_refl 0⟩ (fun r2 r2s _ => ?_)
  refine at_istore (lv' := [(5, .int r2), (0, .ref 0), (1, .int p0), (2, .int p1), (3, .int p2), (4, .int p3)]) hC dX11_ruled_13 (by decide) rfl ?_
  refine at_iload (j := 0) hC rfl dX11_ruled_15 ?_
  refine at_iconst hC ic_m1 dX11_ruled_17 ?_
  refine at_icmp_eq (tgt := 38) hC dX11_ruled_18 rfl (fun _ => ?_) (fun _ => ?_)
  · refine at_iload_n (j := 2) hC rfl rfl dX11_ruled_38 ?_
    refine at_bipush hC bi_7 dX11_ruled_39 ?_
    refine at_icmp_ne (tgt := 49) hC dX11_ruled_41 rfl (fun _ => ?_) (fun _ => ?_)
    · refine at_iload_n (j := 2) hC rfl rfl dX11_ruled_49 ?_
      refine at_bipush hC bi_8 dX11_ruled_50 ?_
      refine at_icmp_ne (tgt := 60) hC dX11_ruled_52 rfl (fun _ => ?_) (fun _ => ?_)
      · refine at_iconst hC ic_0 dX11_ruled_60 ?_
        refine at_drop (lv' := []) [] rfl ?_
        exact t_M_ruled_J61 hC hR r2s 0
      · refine at_bipush hC bi_40 dX11_ruled_55 ?_
        refine at_goto (tgt := 61) hC dX11_ruled_57 rfl ?_
        refine at_drop (lv' := []) [] rfl ?_
        exact t_M_ruled_J61 hC hR r2s 40
    · refine at_bipush hC bi_18 dX11_ruled_44 ?_
      refine at_goto (tgt := 61) hC dX11_ruled_46 rfl ?_
      refine at_drop (lv' := []) [] rfl ?_
      exact t_M_ruled_J61 hC hR r2s 18
  · refine at_aload_n (j := 1) hC rfl rfl dX11_ruled_21 ?_
    refine at_iload (j := 0) hC rfl dX11_ruled_22 ?_
    refine at_bipush hC bi_8 dX11_ruled_24 ?_
    refine at_idiv hC (by decide) dX11_ruled_26 ?_
    refine at_iload (j := 0) hC rfl dX11_ruled_27 ?_
    refine at_bipush hC bi_8 dX11_ruled_29 ?_
    refine at_irem hC (by decide) dX11_ruled_31 ?_
    refine at_callVI hC hR lk_X11_347 (c_M_comesTo r2s (r2 / 8) (r2 - r2 / 8 * 8)) dX11_ruled_32 recX11 rfl rfl ⟨by decide, by decide⟩ (Nat.le_of_ble_eq_true rfl) ⟨Nat.le_refl 0, Nat.le_refl 0⟩ (fun r3 r3s _ => ?_)
    refine at_goto (tgt := 61) hC dX11_ruled_35 rfl ?_
    refine at_drop (lv' := []) [] rfl ?_
    exact t_M_ruled_J61 hC hR r3s r3
theorem dX11_counted_0 : decode cX11_counted 0 = .ok (.aload_n 0, 1) := by decide +kernel
theorem dX11_counted_1 : decode cX11_counted 1 = .ok (.iload_n 1, 1) := by decide +kernel
theorem dX11_counted_2 : decode cX11_counted 2 = .ok (.iload_n 2, 1) := by decide +kernel
theorem dX11_counted_3 : decode cX11_counted 3 = .ok (.invokevirtual 162, 3) := by decide +kernel
theorem dX11_counted_6 : decode cX11_counted 6 = .ok (.ifCond .ne 24, 3) := by decide +kernel
theorem dX11_counted_9 : decode cX11_counted 9 = .ok (.aload_n 0, 1) := by decide +kernel
theorem dX11_counted_10 : decode cX11_counted 10 = .ok (.iload_n 1, 1) := by decide +kernel
theorem dX11_counted_11 : decode cX11_counted 11 = .ok (.iload_n 2, 1) := by decide +kernel
theorem dX11_counted_12 : decode cX11_counted 12 = .ok (.invokevirtual 187, 3) := by decide +kernel
theorem dX11_counted_15 : decode cX11_counted 15 = .ok (.ifCond .eq 19, 3) := by decide +kernel
theorem dX11_counted_18 : decode cX11_counted 18 = .ok (.aload_n 0, 1) := by decide +kernel
theorem dX11_counted_19 : decode cX11_counted 19 = .ok (.bipush 6, 2) := by decide +kernel
theorem dX11_counted_21 : decode cX11_counted 21 = .ok (.iload_n 1, 1) := by decide +kernel
theorem dX11_counted_22 : decode cX11_counted 22 = .ok (.iload_n 2, 1) := by decide +kernel
theorem dX11_counted_23 : decode cX11_counted 23 = .ok (.iload_n 2, 1) := by decide +kernel
theorem dX11_counted_24 : decode cX11_counted 24 = .ok (.invokevirtual 193, 3) := by decide +kernel
theorem dX11_counted_27 : decode cX11_counted 27 = .ok (.ifCond .le 7, 3) := by decide +kernel
theorem dX11_counted_30 : decode cX11_counted 30 = .ok (.iconst 1, 1) := by decide +kernel
theorem dX11_counted_31 : decode cX11_counted 31 = .ok (.goto 4, 3) := by decide +kernel
theorem dX11_counted_34 : decode cX11_counted 34 = .ok (.iconst 0, 1) := by decide +kernel
theorem dX11_counted_35 : decode cX11_counted 35 = .ok (.ireturn, 1) := by decide +kernel
set_option maxRecDepth 100000 in
theorem c_M_counted (σ : MS) (p0 : Int32) (p1 : Int32) : Ct z (wM z τ) rI eqA yX11_counted cX11_counted 3 (some .boolean) 618 0 0 [.ref 0, .int p0, .int p1] σ (M_counted σ p0 p1) := by
  refine Ct.of (by decide) (Nat.le_of_ble_eq_true rfl) (fun ad x hC hR _ => ?_)
  show AT z x 3 (wM z τ) rI (eqA ad) 0 0 0 0 ad 0 [(0, .ref 0), (1, .int p0), (2, .int p1)] [] σ (M_counted σ p0 p1)
  unfold M_counted
  refine at_aload_n (j := 0) hC rfl rfl dX11_counted_0 ?_
  refine at_iload_n (j := 1) hC rfl rfl dX11_counted_1 ?_
  refine at_iload_n (j := 2) hC rfl rfl dX11_counted_2 ?_
  refine at_callVpI hC hR lk_X11_162 (c_M_isMember σ p0 p1) dX11_counted_3 recX11 rfl rfl ⟨by decide, by decide⟩ (Nat.le_of_ble_eq_true rfl) ⟨Nat.le_refl 0, Nat.le_refl 0⟩ (fun r1 _ => ?_)
  refine at_if_ne (tgt := 30) hC dX11_counted_6 rfl (fun _ => ?_) (fun _ => ?_)
  · refine at_iconst hC ic_1 dX11_counted_30 ?_
    refine at_goto (tgt := 35) hC dX11_counted_31 rfl ?_
    exact at_zret (F := eqA ad) (ra := rI) hC nb1 dX11_counted_35 rfl (Nat.le_refl 0) (Nat.le_refl 0) rfl
  · refine at_aload_n (j := 0) hC rfl rfl dX11_counted_9 ?_
    refine at_iload_n (j := 1) hC rfl rfl dX11_counted_10 ?_
    refine at_iload_n (j := 2) hC rfl rfl dX11_counted_11 ?_
    refine at_callVpI hC hR lk_X11_187 (c_M_isGone σ p0 p1) dX11_counted_12 recX11 rfl rfl ⟨by decide, by decide⟩ (Nat.le_of_ble_eq_true rfl) ⟨Nat.le_refl 0, Nat.le_refl 0⟩ (fun r2 _ => ?_)
    refine at_if_eq (tgt := 34) hC dX11_counted_15 rfl (fun _ => ?_) (fun _ => ?_)
    · refine at_iconst hC ic_0 dX11_counted_34 ?_
      exact at_zret (F := eqA ad) (ra := rI) hC nb0 dX11_counted_35 rfl (Nat.le_refl 0) (Nat.le_refl 0) rfl
    · refine at_aload_n (j := 0) hC rfl rfl dX11_counted_18 ?_
      refine at_bipush hC bi_6 dX11_counted_19 ?_
      refine at_iload_n (j := 1) hC rfl rfl dX11_counted_21 ?_
      refine at_iload_n (j := 2) hC rfl rfl dX11_counted_22 ?_
      refine at_iload_n (j := 2) hC rfl rfl dX11_counted_23 ?_
      refine at_callVI hC hR lk_X11_193 (c_M_ruled σ 6 p0 p1 p1) dX11_counted_24 recX11 rfl rfl ⟨by decide, by decide⟩ (Nat.le_of_ble_eq_true rfl) ⟨Nat.le_refl 0, Nat.le_refl 0⟩ (fun r3 r3s _ => ?_)
      refine at_if_le (tgt := 34) hC dX11_counted_27 rfl (fun _ => ?_) (fun _ => ?_)
      · refine at_iconst hC ic_0 dX11_counted_34 ?_
        exact at_zret (F := eqA ad) (ra := rI) hC nb0 dX11_counted_35 rfl (Nat.le_refl 0) (Nat.le_refl 0) rfl
      · refine at_iconst hC ic_1 dX11_counted_30 ?_
        refine at_goto (tgt := 35) hC dX11_counted_31 rfl ?_
        exact at_zret (F := eqA ad) (ra := rI) hC nb1 dX11_counted_35 rfl (Nat.le_refl 0) (Nat.le_refl 0) rfl
theorem dX11_widowOf_0 : decode cX11_widowOf 0 = .ok (.aload_n 0, 1) := by decide +kernel
theorem dX11_widowOf_1 : decode cX11_widowOf 1 = .ok (.getfield 11, 3) := by decide +kernel
theorem dX11_widowOf_4 : decode cX11_widowOf 4 = .ok (.iload_n 1, 1) := by decide +kernel
theorem dX11_widowOf_5 : decode cX11_widowOf 5 = .ok (.iaload, 1) := by decide +kernel
theorem dX11_widowOf_6 : decode cX11_widowOf 6 = .ok (.iconst 1, 1) := by decide +kernel
theorem dX11_widowOf_7 : decode cX11_widowOf 7 = .ok (.if_icmp .ne 21, 3) := by decide +kernel
theorem dX11_widowOf_10 : decode cX11_widowOf 10 = .ok (.aload_n 0, 1) := by decide +kernel
theorem dX11_widowOf_11 : decode cX11_widowOf 11 = .ok (.iload_n 1, 1) := by decide +kernel
theorem dX11_widowOf_12 : decode cX11_widowOf 12 = .ok (.iload_n 2, 1) := by decide +kernel
theorem dX11_widowOf_13 : decode cX11_widowOf 13 = .ok (.invokevirtual 147, 3) := by decide +kernel
theorem dX11_widowOf_16 : decode cX11_widowOf 16 = .ok (.ifCond .eq 12, 3) := by decide +kernel
theorem dX11_widowOf_19 : decode cX11_widowOf 19 = .ok (.aload_n 0, 1) := by decide +kernel
theorem dX11_widowOf_20 : decode cX11_widowOf 20 = .ok (.iload_n 1, 1) := by decide +kernel
theorem dX11_widowOf_21 : decode cX11_widowOf 21 = .ok (.iload_n 2, 1) := by decide +kernel
theorem dX11_widowOf_22 : decode cX11_widowOf 22 = .ok (.invokevirtual 151, 3) := by decide +kernel
theorem dX11_widowOf_25 : decode cX11_widowOf 25 = .ok (.goto 4, 3) := by decide +kernel
theorem dX11_widowOf_28 : decode cX11_widowOf 28 = .ok (.iconst (-1), 1) := by decide +kernel
theorem dX11_widowOf_29 : decode cX11_widowOf 29 = .ok (.istore_n 3, 1) := by decide +kernel
theorem dX11_widowOf_30 : decode cX11_widowOf 30 = .ok (.iload_n 3, 1) := by decide +kernel
theorem dX11_widowOf_31 : decode cX11_widowOf 31 = .ok (.iconst (-1), 1) := by decide +kernel
theorem dX11_widowOf_32 : decode cX11_widowOf 32 = .ok (.if_icmp .ne 5, 3) := by decide +kernel
theorem dX11_widowOf_35 : decode cX11_widowOf 35 = .ok (.iconst (-1), 1) := by decide +kernel
theorem dX11_widowOf_36 : decode cX11_widowOf 36 = .ok (.ireturn, 1) := by decide +kernel
theorem dX11_widowOf_37 : decode cX11_widowOf 37 = .ok (.aload_n 0, 1) := by decide +kernel
theorem dX11_widowOf_38 : decode cX11_widowOf 38 = .ok (.iload_n 3, 1) := by decide +kernel
theorem dX11_widowOf_39 : decode cX11_widowOf 39 = .ok (.iload_n 1, 1) := by decide +kernel
theorem dX11_widowOf_40 : decode cX11_widowOf 40 = .ok (.invokevirtual 155, 3) := by decide +kernel
theorem dX11_widowOf_43 : decode cX11_widowOf 43 = .ok (.istore 4, 2) := by decide +kernel
theorem dX11_widowOf_45 : decode cX11_widowOf 45 = .ok (.aload_n 0, 1) := by decide +kernel
theorem dX11_widowOf_46 : decode cX11_widowOf 46 = .ok (.getfield 114, 3) := by decide +kernel
theorem dX11_widowOf_49 : decode cX11_widowOf 49 = .ok (.iload 4, 2) := by decide +kernel
theorem dX11_widowOf_51 : decode cX11_widowOf 51 = .ok (.iaload, 1) := by decide +kernel
theorem dX11_widowOf_52 : decode cX11_widowOf 52 = .ok (.iload_n 2, 1) := by decide +kernel
theorem dX11_widowOf_53 : decode cX11_widowOf 53 = .ok (.if_icmp .gt 26, 3) := by decide +kernel
theorem dX11_widowOf_56 : decode cX11_widowOf 56 = .ok (.aload_n 0, 1) := by decide +kernel
theorem dX11_widowOf_57 : decode cX11_widowOf 57 = .ok (.iload 4, 2) := by decide +kernel
theorem dX11_widowOf_59 : decode cX11_widowOf 59 = .ok (.aload_n 0, 1) := by decide +kernel
theorem dX11_widowOf_60 : decode cX11_widowOf 60 = .ok (.getfield 114, 3) := by decide +kernel
theorem dX11_widowOf_63 : decode cX11_widowOf 63 = .ok (.iload 4, 2) := by decide +kernel
theorem dX11_widowOf_65 : decode cX11_widowOf 65 = .ok (.iaload, 1) := by decide +kernel
theorem dX11_widowOf_66 : decode cX11_widowOf 66 = .ok (.iconst 1, 1) := by decide +kernel
theorem dX11_widowOf_67 : decode cX11_widowOf 67 = .ok (.isub, 1) := by decide +kernel
theorem dX11_widowOf_68 : decode cX11_widowOf 68 = .ok (.invokevirtual 197, 3) := by decide +kernel
theorem dX11_widowOf_71 : decode cX11_widowOf 71 = .ok (.ifCond .eq 8, 3) := by decide +kernel
theorem dX11_widowOf_74 : decode cX11_widowOf 74 = .ok (.iload 4, 2) := by decide +kernel
theorem dX11_widowOf_76 : decode cX11_widowOf 76 = .ok (.goto 4, 3) := by decide +kernel
theorem dX11_widowOf_79 : decode cX11_widowOf 79 = .ok (.iconst (-1), 1) := by decide +kernel
theorem dX11_widowOf_80 : decode cX11_widowOf 80 = .ok (.ireturn, 1) := by decide +kernel
set_option maxRecDepth 100000 in
theorem t_M_widowOf_J29 (hC : CX z ad x cX11_widowOf RX11 5 (some .int)) (hR : x.2.2.1 = rmk 619 0 0) (σ : MS) (a1 : Int32) (a2 : Int32) (s0 : Int32) : AT z x 5 (wM z τ) rI (eqA ad) 0 0 0 0 ad 29 [(0, .ref 0), (1, .int a1), (2, .int a2)] [.int s0] σ (M_widowOf_J29 σ a1 a2 s0) := by
  unfold M_widowOf_J29
  refine at_istore_n (lv' := [(3, .int s0), (0, .ref 0), (1, .int a1), (2, .int a2)]) hC rfl dX11_widowOf_29 (by decide) rfl ?_
  refine at_iload_n (j := 0) hC rfl rfl dX11_widowOf_30 ?_
  refine at_iconst hC ic_m1 dX11_widowOf_31 ?_
  refine at_icmp_ne (tgt := 37) hC dX11_widowOf_32 rfl (fun _ => ?_) (fun _ => ?_)
  · refine at_aload_n (j := 1) hC rfl rfl dX11_widowOf_37 ?_
    refine at_iload_n (j := 0) hC rfl rfl dX11_widowOf_38 ?_
    refine at_iload_n (j := 2) hC rfl rfl dX11_widowOf_39 ?_
    refine at_callVpI hC hR lk_X11_155 (c_M_mateIn σ s0 a1) dX11_widowOf_40 recX11 rfl rfl ⟨by decide, by decide⟩ (Nat.le_of_ble_eq_true rfl) ⟨Nat.le_refl 0, Nat.le_refl 0⟩ (fun r2 _ => ?_)
    refine at_istore (lv' := [(4, .int r2), (3, .int s0), (0, .ref 0), (1, .int a1), (2, .int a2)]) hC dX11_widowOf_43 (by decide) rfl ?_
    refine at_aload_n (j := 2) hC rfl rfl dX11_widowOf_45 ?_
    refine gf_X11_114 hC dX11_widowOf_46 ?_
    refine at_iload (j := 0) hC rfl dX11_widowOf_49 ?_
    refine at_iald hC 33 dX11_widowOf_51 cl_33 (fun v3 => ?_)
    refine at_iload_n (j := 4) hC rfl rfl dX11_widowOf_52 ?_
    refine at_icmp_gt (tgt := 79) hC dX11_widowOf_53 rfl (fun _ => ?_) (fun _ => ?_)
    · refine at_iconst hC ic_m1 dX11_widowOf_79 ?_
      exact at_iret (F := eqA ad) (ra := rI) hC dX11_widowOf_80 rfl (Nat.le_refl 0) (Nat.le_refl 0) rfl
    · refine at_aload_n (j := 2) hC rfl rfl dX11_widowOf_56 ?_
      refine at_iload (j := 0) hC rfl dX11_widowOf_57 ?_
      refine at_aload_n (j := 2) hC rfl rfl dX11_widowOf_59 ?_
      refine gf_X11_114 hC dX11_widowOf_60 ?_
      refine at_iload (j := 0) hC rfl dX11_widowOf_63 ?_
      refine at_iald hC 33 dX11_widowOf_65 cl_33 (fun v4 => ?_)
      refine at_iconst hC ic_1 dX11_widowOf_66 ?_
      refine at_isub hC dX11_widowOf_67 ?_
      refine at_callVI hC hR lk_X11_197 (c_M_counted σ r2 (v4 - 1)) dX11_widowOf_68 recX11 rfl rfl ⟨by decide, by decide⟩ (Nat.le_of_ble_eq_true rfl) ⟨Nat.le_refl 0, Nat.le_refl 0⟩ (fun r5 r5s _ => ?_)
      refine at_if_eq (tgt := 79) hC dX11_widowOf_71 rfl (fun _ => ?_) (fun _ => ?_)
      · refine at_iconst hC ic_m1 dX11_widowOf_79 ?_
        exact at_iret (F := eqA ad) (ra := rI) hC dX11_widowOf_80 rfl (Nat.le_refl 0) (Nat.le_refl 0) rfl
      · refine at_iload (j := 0) hC rfl dX11_widowOf_74 ?_
        refine at_goto (tgt := 80) hC dX11_widowOf_76 rfl ?_
        exact at_iret (F := eqA ad) (ra := rI) hC dX11_widowOf_80 rfl (Nat.le_refl 0) (Nat.le_refl 0) rfl
  · refine at_iconst hC ic_m1 dX11_widowOf_35 ?_
    exact at_iret (F := eqA ad) (ra := rI) hC dX11_widowOf_36 rfl (Nat.le_refl 0) (Nat.le_refl 0) rfl
set_option maxRecDepth 100000 in
theorem t_M_widowOf_J28 (hC : CX z ad x cX11_widowOf RX11 5 (some .int)) (hR : x.2.2.1 = rmk 619 0 0) (σ : MS) (a1 : Int32) (a2 : Int32) : AT z x 5 (wM z τ) rI (eqA ad) 0 0 0 0 ad 28 [(0, .ref 0), (1, .int a1), (2, .int a2)] [] σ (M_widowOf_J28 σ a1 a2) := by
  unfold M_widowOf_J28
  refine at_iconst hC ic_m1 dX11_widowOf_28 ?_
  exact t_M_widowOf_J29 hC hR σ a1 a2 (-1)
set_option maxRecDepth 100000 in
theorem c_M_widowOf (σ : MS) (p0 : Int32) (p1 : Int32) : Ct z (wM z τ) rI eqA yX11_widowOf cX11_widowOf 5 (some .int) 619 0 0 [.ref 0, .int p0, .int p1] σ (M_widowOf σ p0 p1) := by
  refine Ct.of (by decide) (Nat.le_of_ble_eq_true rfl) (fun ad x hC hR _ => ?_)
  show AT z x 5 (wM z τ) rI (eqA ad) 0 0 0 0 ad 0 [(0, .ref 0), (1, .int p0), (2, .int p1)] [] σ (M_widowOf σ p0 p1)
  unfold M_widowOf
  refine at_aload_n (j := 0) hC rfl rfl dX11_widowOf_0 ?_
  refine gf_X11_11 hC dX11_widowOf_1 ?_
  refine at_iload_n (j := 1) hC rfl rfl dX11_widowOf_4 ?_
  refine at_iald hC 1 dX11_widowOf_5 cl_1 (fun v1 => ?_)
  refine at_iconst hC ic_1 dX11_widowOf_6 ?_
  refine at_icmp_ne (tgt := 28) hC dX11_widowOf_7 rfl (fun _ => ?_) (fun _ => ?_)
  · exact t_M_widowOf_J28 hC hR σ p0 p1
  · refine at_aload_n (j := 0) hC rfl rfl dX11_widowOf_10 ?_
    refine at_iload_n (j := 1) hC rfl rfl dX11_widowOf_11 ?_
    refine at_iload_n (j := 2) hC rfl rfl dX11_widowOf_12 ?_
    refine at_callVpI hC hR lk_X11_147 (c_M_lives σ p0 p1) dX11_widowOf_13 recX11 rfl rfl ⟨by decide, by decide⟩ (Nat.le_of_ble_eq_true rfl) ⟨Nat.le_refl 0, Nat.le_refl 0⟩ (fun r6 _ => ?_)
    refine at_if_eq (tgt := 28) hC dX11_widowOf_16 rfl (fun _ => ?_) (fun _ => ?_)
    · exact t_M_widowOf_J28 hC hR σ p0 p1
    · refine at_aload_n (j := 0) hC rfl rfl dX11_widowOf_19 ?_
      refine at_iload_n (j := 1) hC rfl rfl dX11_widowOf_20 ?_
      refine at_iload_n (j := 2) hC rfl rfl dX11_widowOf_21 ?_
      refine at_callVpI hC hR lk_X11_151 (c_M_lastWedding σ p0 p1) dX11_widowOf_22 recX11 rfl rfl ⟨by decide, by decide⟩ (Nat.le_of_ble_eq_true rfl) ⟨Nat.le_refl 0, Nat.le_refl 0⟩ (fun r7 _ => ?_)
      refine at_goto (tgt := 29) hC dX11_widowOf_25 rfl ?_
      exact t_M_widowOf_J29 hC hR σ p0 p1 r7
theorem dX11_kindOf_0 : decode cX11_kindOf 0 = .ok (.aload_n 0, 1) := by decide +kernel
theorem dX11_kindOf_1 : decode cX11_kindOf 1 = .ok (.iload_n 1, 1) := by decide +kernel
theorem dX11_kindOf_2 : decode cX11_kindOf 2 = .ok (.iload_n 2, 1) := by decide +kernel
theorem dX11_kindOf_3 : decode cX11_kindOf 3 = .ok (.invokevirtual 162, 3) := by decide +kernel
theorem dX11_kindOf_6 : decode cX11_kindOf 6 = .ok (.ifCond .eq 48, 3) := by decide +kernel
theorem dX11_kindOf_9 : decode cX11_kindOf 9 = .ok (.aload_n 0, 1) := by decide +kernel
theorem dX11_kindOf_10 : decode cX11_kindOf 10 = .ok (.iload_n 1, 1) := by decide +kernel
theorem dX11_kindOf_11 : decode cX11_kindOf 11 = .ok (.iload_n 2, 1) := by decide +kernel
theorem dX11_kindOf_12 : decode cX11_kindOf 12 = .ok (.invokevirtual 200, 3) := by decide +kernel
theorem dX11_kindOf_15 : decode cX11_kindOf 15 = .ok (.istore_n 3, 1) := by decide +kernel
theorem dX11_kindOf_16 : decode cX11_kindOf 16 = .ok (.aload_n 0, 1) := by decide +kernel
theorem dX11_kindOf_17 : decode cX11_kindOf 17 = .ok (.iload_n 1, 1) := by decide +kernel
theorem dX11_kindOf_18 : decode cX11_kindOf 18 = .ok (.iload_n 2, 1) := by decide +kernel
theorem dX11_kindOf_19 : decode cX11_kindOf 19 = .ok (.invokevirtual 203, 3) := by decide +kernel
theorem dX11_kindOf_22 : decode cX11_kindOf 22 = .ok (.iconst 1, 1) := by decide +kernel
theorem dX11_kindOf_23 : decode cX11_kindOf 23 = .ok (.if_icmp .le 7, 3) := by decide +kernel
theorem dX11_kindOf_26 : decode cX11_kindOf 26 = .ok (.iconst 3, 1) := by decide +kernel
theorem dX11_kindOf_27 : decode cX11_kindOf 27 = .ok (.goto 26, 3) := by decide +kernel
theorem dX11_kindOf_30 : decode cX11_kindOf 30 = .ok (.aload_n 0, 1) := by decide +kernel
theorem dX11_kindOf_31 : decode cX11_kindOf 31 = .ok (.iload_n 1, 1) := by decide +kernel
theorem dX11_kindOf_32 : decode cX11_kindOf 32 = .ok (.iload_n 3, 1) := by decide +kernel
theorem dX11_kindOf_33 : decode cX11_kindOf 33 = .ok (.invokevirtual 206, 3) := by decide +kernel
theorem dX11_kindOf_36 : decode cX11_kindOf 36 = .ok (.aload_n 0, 1) := by decide +kernel
theorem dX11_kindOf_37 : decode cX11_kindOf 37 = .ok (.bipush 8, 2) := by decide +kernel
theorem dX11_kindOf_39 : decode cX11_kindOf 39 = .ok (.iload_n 1, 1) := by decide +kernel
theorem dX11_kindOf_40 : decode cX11_kindOf 40 = .ok (.iload_n 3, 1) := by decide +kernel
theorem dX11_kindOf_41 : decode cX11_kindOf 41 = .ok (.iload_n 3, 1) := by decide +kernel
theorem dX11_kindOf_42 : decode cX11_kindOf 42 = .ok (.invokevirtual 193, 3) := by decide +kernel
theorem dX11_kindOf_45 : decode cX11_kindOf 45 = .ok (.if_icmp .le 7, 3) := by decide +kernel
theorem dX11_kindOf_48 : decode cX11_kindOf 48 = .ok (.iconst 2, 1) := by decide +kernel
theorem dX11_kindOf_49 : decode cX11_kindOf 49 = .ok (.goto 4, 3) := by decide +kernel
theorem dX11_kindOf_52 : decode cX11_kindOf 52 = .ok (.iconst 1, 1) := by decide +kernel
theorem dX11_kindOf_53 : decode cX11_kindOf 53 = .ok (.ireturn, 1) := by decide +kernel
theorem dX11_kindOf_54 : decode cX11_kindOf 54 = .ok (.aload_n 0, 1) := by decide +kernel
theorem dX11_kindOf_55 : decode cX11_kindOf 55 = .ok (.iload_n 1, 1) := by decide +kernel
theorem dX11_kindOf_56 : decode cX11_kindOf 56 = .ok (.iload_n 2, 1) := by decide +kernel
theorem dX11_kindOf_57 : decode cX11_kindOf 57 = .ok (.invokevirtual 187, 3) := by decide +kernel
theorem dX11_kindOf_60 : decode cX11_kindOf 60 = .ok (.ifCond .eq 6, 3) := by decide +kernel
theorem dX11_kindOf_63 : decode cX11_kindOf 63 = .ok (.bipush 6, 2) := by decide +kernel
theorem dX11_kindOf_65 : decode cX11_kindOf 65 = .ok (.ireturn, 1) := by decide +kernel
theorem dX11_kindOf_66 : decode cX11_kindOf 66 = .ok (.aload_n 0, 1) := by decide +kernel
theorem dX11_kindOf_67 : decode cX11_kindOf 67 = .ok (.iload_n 1, 1) := by decide +kernel
theorem dX11_kindOf_68 : decode cX11_kindOf 68 = .ok (.iload_n 2, 1) := by decide +kernel
theorem dX11_kindOf_69 : decode cX11_kindOf 69 = .ok (.invokevirtual 209, 3) := by decide +kernel
theorem dX11_kindOf_72 : decode cX11_kindOf 72 = .ok (.iconst (-1), 1) := by decide +kernel
theorem dX11_kindOf_73 : decode cX11_kindOf 73 = .ok (.if_icmp .eq 5, 3) := by decide +kernel
theorem dX11_kindOf_76 : decode cX11_kindOf 76 = .ok (.iconst 4, 1) := by decide +kernel
theorem dX11_kindOf_77 : decode cX11_kindOf 77 = .ok (.ireturn, 1) := by decide +kernel
theorem dX11_kindOf_78 : decode cX11_kindOf 78 = .ok (.aload_n 0, 1) := by decide +kernel
theorem dX11_kindOf_79 : decode cX11_kindOf 79 = .ok (.getfield 18, 3) := by decide +kernel
theorem dX11_kindOf_82 : decode cX11_kindOf 82 = .ok (.iload_n 1, 1) := by decide +kernel
theorem dX11_kindOf_83 : decode cX11_kindOf 83 = .ok (.iaload, 1) := by decide +kernel
theorem dX11_kindOf_84 : decode cX11_kindOf 84 = .ok (.istore_n 3, 1) := by decide +kernel
theorem dX11_kindOf_85 : decode cX11_kindOf 85 = .ok (.iload_n 3, 1) := by decide +kernel
theorem dX11_kindOf_86 : decode cX11_kindOf 86 = .ok (.iconst (-1), 1) := by decide +kernel
theorem dX11_kindOf_87 : decode cX11_kindOf 87 = .ok (.if_icmp .eq 51, 3) := by decide +kernel
theorem dX11_kindOf_90 : decode cX11_kindOf 90 = .ok (.aload_n 0, 1) := by decide +kernel
theorem dX11_kindOf_91 : decode cX11_kindOf 91 = .ok (.getfield 114, 3) := by decide +kernel
theorem dX11_kindOf_94 : decode cX11_kindOf 94 = .ok (.iload_n 3, 1) := by decide +kernel
theorem dX11_kindOf_95 : decode cX11_kindOf 95 = .ok (.iaload, 1) := by decide +kernel
theorem dX11_kindOf_96 : decode cX11_kindOf 96 = .ok (.iload_n 2, 1) := by decide +kernel
theorem dX11_kindOf_97 : decode cX11_kindOf 97 = .ok (.if_icmp .gt 41, 3) := by decide +kernel
theorem dX11_kindOf_100 : decode cX11_kindOf 100 = .ok (.aload_n 0, 1) := by decide +kernel
theorem dX11_kindOf_101 : decode cX11_kindOf 101 = .ok (.iload_n 3, 1) := by decide +kernel
theorem dX11_kindOf_102 : decode cX11_kindOf 102 = .ok (.aload_n 0, 1) := by decide +kernel
theorem dX11_kindOf_103 : decode cX11_kindOf 103 = .ok (.getfield 114, 3) := by decide +kernel
theorem dX11_kindOf_106 : decode cX11_kindOf 106 = .ok (.iload_n 3, 1) := by decide +kernel
theorem dX11_kindOf_107 : decode cX11_kindOf 107 = .ok (.iaload, 1) := by decide +kernel
theorem dX11_kindOf_108 : decode cX11_kindOf 108 = .ok (.iconst 1, 1) := by decide +kernel
theorem dX11_kindOf_109 : decode cX11_kindOf 109 = .ok (.isub, 1) := by decide +kernel
theorem dX11_kindOf_110 : decode cX11_kindOf 110 = .ok (.invokevirtual 197, 3) := by decide +kernel
theorem dX11_kindOf_113 : decode cX11_kindOf 113 = .ok (.ifCond .eq 25, 3) := by decide +kernel
theorem dX11_kindOf_116 : decode cX11_kindOf 116 = .ok (.aload_n 0, 1) := by decide +kernel
theorem dX11_kindOf_117 : decode cX11_kindOf 117 = .ok (.iload_n 1, 1) := by decide +kernel
theorem dX11_kindOf_118 : decode cX11_kindOf 118 = .ok (.iload_n 2, 1) := by decide +kernel
theorem dX11_kindOf_119 : decode cX11_kindOf 119 = .ok (.invokevirtual 206, 3) := by decide +kernel
theorem dX11_kindOf_122 : decode cX11_kindOf 122 = .ok (.aload_n 0, 1) := by decide +kernel
theorem dX11_kindOf_123 : decode cX11_kindOf 123 = .ok (.bipush 7, 2) := by decide +kernel
theorem dX11_kindOf_125 : decode cX11_kindOf 125 = .ok (.iconst (-1), 1) := by decide +kernel
theorem dX11_kindOf_126 : decode cX11_kindOf 126 = .ok (.iload_n 2, 1) := by decide +kernel
theorem dX11_kindOf_127 : decode cX11_kindOf 127 = .ok (.iload_n 2, 1) := by decide +kernel
theorem dX11_kindOf_128 : decode cX11_kindOf 128 = .ok (.invokevirtual 193, 3) := by decide +kernel
theorem dX11_kindOf_131 : decode cX11_kindOf 131 = .ok (.if_icmp .ge 7, 3) := by decide +kernel
theorem dX11_kindOf_134 : decode cX11_kindOf 134 = .ok (.iconst 1, 1) := by decide +kernel
theorem dX11_kindOf_135 : decode cX11_kindOf 135 = .ok (.goto 4, 3) := by decide +kernel
theorem dX11_kindOf_138 : decode cX11_kindOf 138 = .ok (.iconst 0, 1) := by decide +kernel
theorem dX11_kindOf_139 : decode cX11_kindOf 139 = .ok (.istore 4, 2) := by decide +kernel
theorem dX11_kindOf_141 : decode cX11_kindOf 141 = .ok (.iload 4, 2) := by decide +kernel
theorem dX11_kindOf_143 : decode cX11_kindOf 143 = .ok (.ifCond .eq 7, 3) := by decide +kernel
theorem dX11_kindOf_146 : decode cX11_kindOf 146 = .ok (.iconst 5, 1) := by decide +kernel
theorem dX11_kindOf_147 : decode cX11_kindOf 147 = .ok (.goto 4, 3) := by decide +kernel
theorem dX11_kindOf_150 : decode cX11_kindOf 150 = .ok (.iconst 0, 1) := by decide +kernel
theorem dX11_kindOf_151 : decode cX11_kindOf 151 = .ok (.ireturn, 1) := by decide +kernel
set_option maxRecDepth 100000 in
theorem t_M_kindOf_J139 (hC : CX z ad x cX11_kindOf RX11 5 (some .int)) (hR : x.2.2.1 = rmk 620 0 0) (σ : MS) (s0 : Int32) : AT z x 5 (wM z τ) rI (eqA ad) 0 0 0 0 ad 139 [] [.int s0] σ (M_kindOf_J139 σ s0) := by
  unfold M_kindOf_J139
  refine at_istore (lv' := [(4, .int s0)]) hC dX11_kindOf_139 (by decide) rfl ?_
  refine at_iload (j := 0) hC rfl dX11_kindOf_141 ?_
  refine at_if_eq (tgt := 150) hC dX11_kindOf_143 rfl (fun _ => ?_) (fun _ => ?_)
  · refine at_iconst hC ic_0 dX11_kindOf_150 ?_
    exact at_iret (F := eqA ad) (ra := rI) hC dX11_kindOf_151 rfl (Nat.le_refl 0) (Nat.le_refl 0) rfl
  · refine at_iconst hC ic_5 dX11_kindOf_146 ?_
    refine at_goto (tgt := 151) hC dX11_kindOf_147 rfl ?_
    exact at_iret (F := eqA ad) (ra := rI) hC dX11_kindOf_151 rfl (Nat.le_refl 0) (Nat.le_refl 0) rfl
set_option maxRecDepth 100000 in
theorem t_M_kindOf_J138 (hC : CX z ad x cX11_kindOf RX11 5 (some .int)) (hR : x.2.2.1 = rmk 620 0 0) (σ : MS) : AT z x 5 (wM z τ) rI (eqA ad) 0 0 0 0 ad 138 [] [] σ (M_kindOf_J138 σ) := by
  unfold M_kindOf_J138
  refine at_iconst hC ic_0 dX11_kindOf_138 ?_
  exact t_M_kindOf_J139 hC hR σ 0
set_option maxRecDepth 100000 in
theorem c_M_kindOf (σ : MS) (p0 : Int32) (p1 : Int32) : Ct z (wM z τ) rI eqA yX11_kindOf cX11_kindOf 5 (some .int) 620 0 0 [.ref 0, .int p0, .int p1] σ (M_kindOf σ p0 p1) := by
  refine Ct.of (by decide) (Nat.le_of_ble_eq_true rfl) (fun ad x hC hR _ => ?_)
  show AT z x 5 (wM z τ) rI (eqA ad) 0 0 0 0 ad 0 [(0, .ref 0), (1, .int p0), (2, .int p1)] [] σ (M_kindOf σ p0 p1)
  unfold M_kindOf
  refine at_aload_n (j := 0) hC rfl rfl dX11_kindOf_0 ?_
  refine at_iload_n (j := 1) hC rfl rfl dX11_kindOf_1 ?_
  refine at_iload_n (j := 2) hC rfl rfl dX11_kindOf_2 ?_
  refine at_callVpI hC hR lk_X11_162 (c_M_isMember σ p0 p1) dX11_kindOf_3 recX11 rfl rfl ⟨by decide, by decide⟩ (Nat.le_of_ble_eq_true rfl) ⟨Nat.le_refl 0, Nat.le_refl 0⟩ (fun r1 _ => ?_)
  refine at_if_eq (tgt := 54) hC dX11_kindOf_6 rfl (fun _ => ?_) (fun _ => ?_)
  · refine at_aload_n (j := 0) hC rfl rfl dX11_kindOf_54 ?_
    refine at_iload_n (j := 1) hC rfl rfl dX11_kindOf_55 ?_
    refine at_iload_n (j := 2) hC rfl rfl dX11_kindOf_56 ?_
    refine at_callVpI hC hR lk_X11_187 (c_M_isGone σ p0 p1) dX11_kindOf_57 recX11 rfl rfl ⟨by decide, by decide⟩ (Nat.le_of_ble_eq_true rfl) ⟨Nat.le_refl 0, Nat.le_refl 0⟩ (fun r2 _ => ?_)
    refine at_if_eq (tgt := 66) hC dX11_kindOf_60 rfl (fun _ => ?_) (fun _ => ?_)
    · refine at_aload_n (j := 0) hC rfl rfl dX11_kindOf_66 ?_
      refine at_iload_n (j := 1) hC rfl rfl dX11_kindOf_67 ?_
      refine at_iload_n (j := 2) hC rfl rfl dX11_kindOf_68 ?_
      refine at_callVI hC hR lk_X11_209 (c_M_widowOf σ p0 p1) dX11_kindOf_69 recX11 rfl rfl ⟨by decide, by decide⟩ (Nat.le_of_ble_eq_true rfl) ⟨Nat.le_refl 0, Nat.le_refl 0⟩ (fun r3 r3s _ => ?_)
      refine at_iconst hC ic_m1 dX11_kindOf_72 ?_
      refine at_icmp_eq (tgt := 78) hC dX11_kindOf_73 rfl (fun _ => ?_) (fun _ => ?_)
      · refine at_aload_n (j := 0) hC rfl rfl dX11_kindOf_78 ?_
        refine gf_X11_18 hC dX11_kindOf_79 ?_
        refine at_iload_n (j := 1) hC rfl rfl dX11_kindOf_82 ?_
        refine at_iald hC 3 dX11_kindOf_83 cl_3 (fun v4 => ?_)
        refine at_istore_n (lv' := [(3, .int v4), (0, .ref 0), (1, .int p0), (2, .int p1)]) hC rfl dX11_kindOf_84 (by decide) rfl ?_
        refine at_iload_n (j := 0) hC rfl rfl dX11_kindOf_85 ?_
        refine at_iconst hC ic_m1 dX11_kindOf_86 ?_
        refine at_icmp_eq (tgt := 138) hC dX11_kindOf_87 rfl (fun _ => ?_) (fun _ => ?_)
        · refine at_drop (lv' := []) [] rfl ?_
          exact t_M_kindOf_J138 hC hR r3s
        · refine at_aload_n (j := 1) hC rfl rfl dX11_kindOf_90 ?_
          refine gf_X11_114 hC dX11_kindOf_91 ?_
          refine at_iload_n (j := 0) hC rfl rfl dX11_kindOf_94 ?_
          refine at_iald hC 33 dX11_kindOf_95 cl_33 (fun v5 => ?_)
          refine at_iload_n (j := 3) hC rfl rfl dX11_kindOf_96 ?_
          refine at_icmp_gt (tgt := 138) hC dX11_kindOf_97 rfl (fun _ => ?_) (fun _ => ?_)
          · refine at_drop (lv' := []) [] rfl ?_
            exact t_M_kindOf_J138 hC hR r3s
          · refine at_aload_n (j := 1) hC rfl rfl dX11_kindOf_100 ?_
            refine at_iload_n (j := 0) hC rfl rfl dX11_kindOf_101 ?_
            refine at_aload_n (j := 1) hC rfl rfl dX11_kindOf_102 ?_
            refine gf_X11_114 hC dX11_kindOf_103 ?_
            refine at_iload_n (j := 0) hC rfl rfl dX11_kindOf_106 ?_
            refine at_iald hC 33 dX11_kindOf_107 cl_33 (fun v6 => ?_)
            refine at_iconst hC ic_1 dX11_kindOf_108 ?_
            refine at_isub hC dX11_kindOf_109 ?_
            refine at_callVI hC hR lk_X11_197 (c_M_counted r3s v4 (v6 - 1)) dX11_kindOf_110 recX11 rfl rfl ⟨by decide, by decide⟩ (Nat.le_of_ble_eq_true rfl) ⟨Nat.le_refl 0, Nat.le_refl 0⟩ (fun r7 r7s _ => ?_)
            refine at_if_eq (tgt := 138) hC dX11_kindOf_113 rfl (fun _ => ?_) (fun _ => ?_)
            · refine at_drop (lv' := []) [] rfl ?_
              exact t_M_kindOf_J138 hC hR r7s
            · refine at_aload_n (j := 1) hC rfl rfl dX11_kindOf_116 ?_
              refine at_iload_n (j := 2) hC rfl rfl dX11_kindOf_117 ?_
              refine at_iload_n (j := 3) hC rfl rfl dX11_kindOf_118 ?_
              refine at_callVpI hC hR lk_X11_206 (c_M_ageOf r7s p0 p1) dX11_kindOf_119 recX11 rfl rfl ⟨by decide, by decide⟩ (Nat.le_of_ble_eq_true rfl) ⟨Nat.le_refl 0, Nat.le_refl 0⟩ (fun r8 _ => ?_)
              refine at_aload_n (j := 1) hC rfl rfl dX11_kindOf_122 ?_
              refine at_bipush hC bi_7 dX11_kindOf_123 ?_
              refine at_iconst hC ic_m1 dX11_kindOf_125 ?_
              refine at_iload_n (j := 3) hC rfl rfl dX11_kindOf_126 ?_
              refine at_iload_n (j := 3) hC rfl rfl dX11_kindOf_127 ?_
              refine at_callVI hC hR lk_X11_193 (c_M_ruled r7s 7 (-1) p1 p1) dX11_kindOf_128 recX11 rfl rfl ⟨by decide, by decide⟩ (Nat.le_of_ble_eq_true rfl) ⟨Nat.le_refl 0, Nat.le_refl 0⟩ (fun r9 r9s _ => ?_)
              refine at_icmp_ge (tgt := 138) hC dX11_kindOf_131 rfl (fun _ => ?_) (fun _ => ?_)
              · refine at_drop (lv' := []) [] rfl ?_
                exact t_M_kindOf_J138 hC hR r9s
              · refine at_iconst hC ic_1 dX11_kindOf_134 ?_
                refine at_goto (tgt := 139) hC dX11_kindOf_135 rfl ?_
                refine at_drop (lv' := []) [] rfl ?_
                exact t_M_kindOf_J139 hC hR r9s 1
      · refine at_iconst hC ic_4 dX11_kindOf_76 ?_
        exact at_iret (F := eqA ad) (ra := rI) hC dX11_kindOf_77 rfl (Nat.le_refl 0) (Nat.le_refl 0) rfl
    · refine at_bipush hC bi_6 dX11_kindOf_63 ?_
      exact at_iret (F := eqA ad) (ra := rI) hC dX11_kindOf_65 rfl (Nat.le_refl 0) (Nat.le_refl 0) rfl
  · refine at_aload_n (j := 0) hC rfl rfl dX11_kindOf_9 ?_
    refine at_iload_n (j := 1) hC rfl rfl dX11_kindOf_10 ?_
    refine at_iload_n (j := 2) hC rfl rfl dX11_kindOf_11 ?_
    refine at_callVpI hC hR lk_X11_200 (c_M_firstJoined σ p0 p1) dX11_kindOf_12 recX11 rfl rfl ⟨by decide, by decide⟩ (Nat.le_of_ble_eq_true rfl) ⟨Nat.le_refl 0, Nat.le_refl 0⟩ (fun r10 _ => ?_)
    refine at_istore_n (lv' := [(3, .int r10), (0, .ref 0), (1, .int p0), (2, .int p1)]) hC rfl dX11_kindOf_15 (by decide) rfl ?_
    refine at_aload_n (j := 1) hC rfl rfl dX11_kindOf_16 ?_
    refine at_iload_n (j := 2) hC rfl rfl dX11_kindOf_17 ?_
    refine at_iload_n (j := 3) hC rfl rfl dX11_kindOf_18 ?_
    refine at_callVpI hC hR lk_X11_203 (c_M_weddings σ p0 p1) dX11_kindOf_19 recX11 rfl rfl ⟨by decide, by decide⟩ (Nat.le_of_ble_eq_true rfl) ⟨Nat.le_refl 0, Nat.le_refl 0⟩ (fun r11 _ => ?_)
    refine at_iconst hC ic_1 dX11_kindOf_22 ?_
    refine at_icmp_le (tgt := 30) hC dX11_kindOf_23 rfl (fun _ => ?_) (fun _ => ?_)
    · refine at_aload_n (j := 1) hC rfl rfl dX11_kindOf_30 ?_
      refine at_iload_n (j := 2) hC rfl rfl dX11_kindOf_31 ?_
      refine at_iload_n (j := 0) hC rfl rfl dX11_kindOf_32 ?_
      refine at_callVpI hC hR lk_X11_206 (c_M_ageOf σ p0 r10) dX11_kindOf_33 recX11 rfl rfl ⟨by decide, by decide⟩ (Nat.le_of_ble_eq_true rfl) ⟨Nat.le_refl 0, Nat.le_refl 0⟩ (fun r12 _ => ?_)
      refine at_aload_n (j := 1) hC rfl rfl dX11_kindOf_36 ?_
      refine at_bipush hC bi_8 dX11_kindOf_37 ?_
      refine at_iload_n (j := 2) hC rfl rfl dX11_kindOf_39 ?_
      refine at_iload_n (j := 0) hC rfl rfl dX11_kindOf_40 ?_
      refine at_iload_n (j := 0) hC rfl rfl dX11_kindOf_41 ?_
      refine at_callVI hC hR lk_X11_193 (c_M_ruled σ 8 p0 r10 r10) dX11_kindOf_42 recX11 rfl rfl ⟨by decide, by decide⟩ (Nat.le_of_ble_eq_true rfl) ⟨Nat.le_refl 0, Nat.le_refl 0⟩ (fun r13 r13s _ => ?_)
      refine at_icmp_le (tgt := 52) hC dX11_kindOf_45 rfl (fun _ => ?_) (fun _ => ?_)
      · refine at_iconst hC ic_1 dX11_kindOf_52 ?_
        exact at_iret (F := eqA ad) (ra := rI) hC dX11_kindOf_53 rfl (Nat.le_refl 0) (Nat.le_refl 0) rfl
      · refine at_iconst hC ic_2 dX11_kindOf_48 ?_
        refine at_goto (tgt := 53) hC dX11_kindOf_49 rfl ?_
        exact at_iret (F := eqA ad) (ra := rI) hC dX11_kindOf_53 rfl (Nat.le_refl 0) (Nat.le_refl 0) rfl
    · refine at_iconst hC ic_3 dX11_kindOf_26 ?_
      refine at_goto (tgt := 53) hC dX11_kindOf_27 rfl ?_
      exact at_iret (F := eqA ad) (ra := rI) hC dX11_kindOf_53 rfl (Nat.le_refl 0) (Nat.le_refl 0) rfl
theorem dX11_as_0 : decode cX11_as 0 = .ok (.aload_n 0, 1) := by decide +kernel
theorem dX11_as_1 : decode cX11_as 1 = .ok (.iload_n 1, 1) := by decide +kernel
theorem dX11_as_2 : decode cX11_as 2 = .ok (.invokevirtual 133, 3) := by decide +kernel
theorem dX11_as_5 : decode cX11_as 5 = .ok (.ifCond .eq 11, 3) := by decide +kernel
theorem dX11_as_8 : decode cX11_as 8 = .ok (.aload_n 0, 1) := by decide +kernel
theorem dX11_as_9 : decode cX11_as 9 = .ok (.iload_n 3, 1) := by decide +kernel
theorem dX11_as_10 : decode cX11_as 10 = .ok (.invokevirtual 212, 3) := by decide +kernel
theorem dX11_as_13 : decode cX11_as 13 = .ok (.ifCond .ne 5, 3) := by decide +kernel
theorem dX11_as_16 : decode cX11_as 16 = .ok (.iconst (-1), 1) := by decide +kernel
theorem dX11_as_17 : decode cX11_as 17 = .ok (.ireturn, 1) := by decide +kernel
theorem dX11_as_18 : decode cX11_as 18 = .ok (.iload_n 2, 1) := by decide +kernel
theorem dX11_as_19 : decode cX11_as 19 = .ok (.invokestatic 177, 3) := by decide +kernel
theorem dX11_as_22 : decode cX11_as 22 = .ok (.ifCond .ne 6, 3) := by decide +kernel
theorem dX11_as_25 : decode cX11_as 25 = .ok (.bipush (-2), 2) := by decide +kernel
theorem dX11_as_27 : decode cX11_as 27 = .ok (.ireturn, 1) := by decide +kernel
theorem dX11_as_28 : decode cX11_as 28 = .ok (.aload_n 0, 1) := by decide +kernel
theorem dX11_as_29 : decode cX11_as 29 = .ok (.iload_n 3, 1) := by decide +kernel
theorem dX11_as_30 : decode cX11_as 30 = .ok (.invokevirtual 143, 3) := by decide +kernel
theorem dX11_as_33 : decode cX11_as 33 = .ok (.aload_n 0, 1) := by decide +kernel
theorem dX11_as_34 : decode cX11_as 34 = .ok (.iload_n 1, 1) := by decide +kernel
theorem dX11_as_35 : decode cX11_as 35 = .ok (.iload_n 2, 1) := by decide +kernel
theorem dX11_as_36 : decode cX11_as 36 = .ok (.invokevirtual 147, 3) := by decide +kernel
theorem dX11_as_39 : decode cX11_as 39 = .ok (.ifCond .eq 12, 3) := by decide +kernel
theorem dX11_as_42 : decode cX11_as 42 = .ok (.aload_n 0, 1) := by decide +kernel
theorem dX11_as_43 : decode cX11_as 43 = .ok (.iload_n 1, 1) := by decide +kernel
theorem dX11_as_44 : decode cX11_as 44 = .ok (.iload_n 2, 1) := by decide +kernel
theorem dX11_as_45 : decode cX11_as 45 = .ok (.invokevirtual 215, 3) := by decide +kernel
theorem dX11_as_48 : decode cX11_as 48 = .ok (.goto 5, 3) := by decide +kernel
theorem dX11_as_51 : decode cX11_as 51 = .ok (.bipush (-5), 2) := by decide +kernel
theorem dX11_as_53 : decode cX11_as 53 = .ok (.ireturn, 1) := by decide +kernel
set_option maxRecDepth 100000 in
theorem c_M_as (σ : MS) (p0 : Int32) (p1 : Int32) (p2 : Int32) : Ct z (wM z τ) rI eqA yX11_as cX11_as 4 (some .int) 621 0 0 [.ref 0, .int p0, .int p1, .int p2] σ (M_as σ p0 p1 p2) := by
  refine Ct.of (by decide) (Nat.le_of_ble_eq_true rfl) (fun ad x hC hR _ => ?_)
  show AT z x 4 (wM z τ) rI (eqA ad) 0 0 0 0 ad 0 [(0, .ref 0), (1, .int p0), (2, .int p1), (3, .int p2)] [] σ (M_as σ p0 p1 p2)
  unfold M_as
  refine at_aload_n (j := 0) hC rfl rfl dX11_as_0 ?_
  refine at_iload_n (j := 1) hC rfl rfl dX11_as_1 ?_
  refine at_callVpI hC hR lk_X11_133 (c_M_isPerson σ p0) dX11_as_2 recX11 rfl rfl ⟨by decide, by decide⟩ (Nat.le_of_ble_eq_true rfl) ⟨Nat.le_refl 0, Nat.le_refl 0⟩ (fun r1 _ => ?_)
  refine at_if_eq (tgt := 16) hC dX11_as_5 rfl (fun _ => ?_) (fun _ => ?_)
  · refine at_iconst hC ic_m1 dX11_as_16 ?_
    exact at_iret (F := eqA ad) (ra := rI) hC dX11_as_17 rfl (Nat.le_refl 0) (Nat.le_refl 0) rfl
  · refine at_aload_n (j := 0) hC rfl rfl dX11_as_8 ?_
    refine at_iload_n (j := 3) hC rfl rfl dX11_as_9 ?_
    refine at_callVpI hC hR lk_X11_212 (c_M_isBy σ p2) dX11_as_10 recX11 rfl rfl ⟨by decide, by decide⟩ (Nat.le_of_ble_eq_true rfl) ⟨Nat.le_refl 0, Nat.le_refl 0⟩ (fun r2 _ => ?_)
    refine at_if_ne (tgt := 18) hC dX11_as_13 rfl (fun _ => ?_) (fun _ => ?_)
    · refine at_iload_n (j := 2) hC rfl rfl dX11_as_18 ?_
      refine at_callSpI hC hR lk_X11_177 (c_M_isDay σ p1) dX11_as_19 rfl rfl ⟨by decide, by decide⟩ (Nat.le_of_ble_eq_true rfl) ⟨Nat.le_refl 0, Nat.le_refl 0⟩ (fun r3 _ => ?_)
      refine at_if_ne (tgt := 28) hC dX11_as_22 rfl (fun _ => ?_) (fun _ => ?_)
      · refine at_aload_n (j := 0) hC rfl rfl dX11_as_28 ?_
        refine at_iload_n (j := 3) hC rfl rfl dX11_as_29 ?_
        refine at_callVU hC hR lk_X11_143 (c_M_looks σ p2) dX11_as_30 recX11 rfl rfl ⟨by decide, by decide⟩ (Nat.le_of_ble_eq_true rfl) ⟨Nat.le_refl 0, Nat.le_refl 0⟩ (fun r4 r4s _ => ?_)
        refine at_aload_n (j := 0) hC rfl rfl dX11_as_33 ?_
        refine at_iload_n (j := 1) hC rfl rfl dX11_as_34 ?_
        refine at_iload_n (j := 2) hC rfl rfl dX11_as_35 ?_
        refine at_callVpI hC hR lk_X11_147 (c_M_lives r4s p0 p1) dX11_as_36 recX11 rfl rfl ⟨by decide, by decide⟩ (Nat.le_of_ble_eq_true rfl) ⟨Nat.le_refl 0, Nat.le_refl 0⟩ (fun r5 _ => ?_)
        refine at_if_eq (tgt := 51) hC dX11_as_39 rfl (fun _ => ?_) (fun _ => ?_)
        · refine at_bipush hC bi_m5 dX11_as_51 ?_
          exact at_iret (F := eqA ad) (ra := rI) hC dX11_as_53 rfl (Nat.le_refl 0) (Nat.le_refl 0) rfl
        · refine at_aload_n (j := 0) hC rfl rfl dX11_as_42 ?_
          refine at_iload_n (j := 1) hC rfl rfl dX11_as_43 ?_
          refine at_iload_n (j := 2) hC rfl rfl dX11_as_44 ?_
          refine at_callVI hC hR lk_X11_215 (c_M_kindOf r4s p0 p1) dX11_as_45 recX11 rfl rfl ⟨by decide, by decide⟩ (Nat.le_of_ble_eq_true rfl) ⟨Nat.le_refl 0, Nat.le_refl 0⟩ (fun r6 r6s _ => ?_)
          refine at_goto (tgt := 53) hC dX11_as_48 rfl ?_
          exact at_iret (F := eqA ad) (ra := rI) hC dX11_as_53 rfl (Nat.le_refl 0) (Nat.le_refl 0) rfl
      · refine at_bipush hC bi_m2 dX11_as_25 ?_
        exact at_iret (F := eqA ad) (ra := rI) hC dX11_as_27 rfl (Nat.le_refl 0) (Nat.le_refl 0) rfl
    · refine at_iconst hC ic_m1 dX11_as_16 ?_
      exact at_iret (F := eqA ad) (ra := rI) hC dX11_as_17 rfl (Nat.le_refl 0) (Nat.le_refl 0) rfl
theorem dX11_live_0 : decode cX11_live 0 = .ok (.aload_n 0, 1) := by decide +kernel
theorem dX11_live_1 : decode cX11_live 1 = .ok (.iload_n 1, 1) := by decide +kernel
theorem dX11_live_2 : decode cX11_live 2 = .ok (.invokevirtual 133, 3) := by decide +kernel
theorem dX11_live_5 : decode cX11_live 5 = .ok (.ifCond .eq 21, 3) := by decide +kernel
theorem dX11_live_8 : decode cX11_live 8 = .ok (.aload_n 0, 1) := by decide +kernel
theorem dX11_live_9 : decode cX11_live 9 = .ok (.iload_n 3, 1) := by decide +kernel
theorem dX11_live_10 : decode cX11_live 10 = .ok (.invokevirtual 212, 3) := by decide +kernel
theorem dX11_live_13 : decode cX11_live 13 = .ok (.ifCond .eq 13, 3) := by decide +kernel
theorem dX11_live_16 : decode cX11_live 16 = .ok (.iload 4, 2) := by decide +kernel
theorem dX11_live_18 : decode cX11_live 18 = .ok (.iconst 0, 1) := by decide +kernel
theorem dX11_live_19 : decode cX11_live 19 = .ok (.iconst 5, 1) := by decide +kernel
theorem dX11_live_20 : decode cX11_live 20 = .ok (.invokestatic 129, 3) := by decide +kernel
theorem dX11_live_23 : decode cX11_live 23 = .ok (.ifCond .ne 5, 3) := by decide +kernel
theorem dX11_live_26 : decode cX11_live 26 = .ok (.iconst (-1), 1) := by decide +kernel
theorem dX11_live_27 : decode cX11_live 27 = .ok (.ireturn, 1) := by decide +kernel
theorem dX11_live_28 : decode cX11_live 28 = .ok (.iload_n 2, 1) := by decide +kernel
theorem dX11_live_29 : decode cX11_live 29 = .ok (.invokestatic 177, 3) := by decide +kernel
theorem dX11_live_32 : decode cX11_live 32 = .ok (.ifCond .ne 6, 3) := by decide +kernel
theorem dX11_live_35 : decode cX11_live 35 = .ok (.bipush (-2), 2) := by decide +kernel
theorem dX11_live_37 : decode cX11_live 37 = .ok (.ireturn, 1) := by decide +kernel
theorem dX11_live_38 : decode cX11_live 38 = .ok (.aload_n 0, 1) := by decide +kernel
theorem dX11_live_39 : decode cX11_live 39 = .ok (.iload_n 3, 1) := by decide +kernel
theorem dX11_live_40 : decode cX11_live 40 = .ok (.invokevirtual 143, 3) := by decide +kernel
theorem dX11_live_43 : decode cX11_live 43 = .ok (.iload 4, 2) := by decide +kernel
theorem dX11_live_45 : decode cX11_live 45 = .ok (.tableswitch 98 0 4 #[35, 42, 49, 71, 78], 35) := by decide +kernel
theorem dX11_live_80 : decode cX11_live 80 = .ok (.aload_n 0, 1) := by decide +kernel
theorem dX11_live_81 : decode cX11_live 81 = .ok (.iload_n 1, 1) := by decide +kernel
theorem dX11_live_82 : decode cX11_live 82 = .ok (.iload_n 2, 1) := by decide +kernel
theorem dX11_live_83 : decode cX11_live 83 = .ok (.invokevirtual 180, 3) := by decide +kernel
theorem dX11_live_86 : decode cX11_live 86 = .ok (.ireturn, 1) := by decide +kernel
theorem dX11_live_87 : decode cX11_live 87 = .ok (.aload_n 0, 1) := by decide +kernel
theorem dX11_live_88 : decode cX11_live 88 = .ok (.iload_n 1, 1) := by decide +kernel
theorem dX11_live_89 : decode cX11_live 89 = .ok (.iload_n 2, 1) := by decide +kernel
theorem dX11_live_90 : decode cX11_live 90 = .ok (.invokevirtual 165, 3) := by decide +kernel
theorem dX11_live_93 : decode cX11_live 93 = .ok (.ireturn, 1) := by decide +kernel
theorem dX11_live_94 : decode cX11_live 94 = .ok (.aload_n 0, 1) := by decide +kernel
theorem dX11_live_95 : decode cX11_live 95 = .ok (.iload_n 1, 1) := by decide +kernel
theorem dX11_live_96 : decode cX11_live 96 = .ok (.iconst 4, 1) := by decide +kernel
theorem dX11_live_97 : decode cX11_live 97 = .ok (.iload_n 2, 1) := by decide +kernel
theorem dX11_live_98 : decode cX11_live 98 = .ok (.invokevirtual 158, 3) := by decide +kernel
theorem dX11_live_101 : decode cX11_live 101 = .ok (.iconst (-1), 1) := by decide +kernel
theorem dX11_live_102 : decode cX11_live 102 = .ok (.if_icmp .ne 7, 3) := by decide +kernel
theorem dX11_live_105 : decode cX11_live 105 = .ok (.iconst (-1), 1) := by decide +kernel
theorem dX11_live_106 : decode cX11_live 106 = .ok (.goto 9, 3) := by decide +kernel
theorem dX11_live_109 : decode cX11_live 109 = .ok (.aload_n 0, 1) := by decide +kernel
theorem dX11_live_110 : decode cX11_live 110 = .ok (.iload_n 1, 1) := by decide +kernel
theorem dX11_live_111 : decode cX11_live 111 = .ok (.iload_n 2, 1) := by decide +kernel
theorem dX11_live_112 : decode cX11_live 112 = .ok (.invokevirtual 218, 3) := by decide +kernel
theorem dX11_live_115 : decode cX11_live 115 = .ok (.ireturn, 1) := by decide +kernel
theorem dX11_live_116 : decode cX11_live 116 = .ok (.aload_n 0, 1) := by decide +kernel
theorem dX11_live_117 : decode cX11_live 117 = .ok (.iload_n 1, 1) := by decide +kernel
theorem dX11_live_118 : decode cX11_live 118 = .ok (.iload_n 2, 1) := by decide +kernel
theorem dX11_live_119 : decode cX11_live 119 = .ok (.invokevirtual 203, 3) := by decide +kernel
theorem dX11_live_122 : decode cX11_live 122 = .ok (.ireturn, 1) := by decide +kernel
theorem dX11_live_123 : decode cX11_live 123 = .ok (.aload_n 0, 1) := by decide +kernel
theorem dX11_live_124 : decode cX11_live 124 = .ok (.iload_n 1, 1) := by decide +kernel
theorem dX11_live_125 : decode cX11_live 125 = .ok (.iload_n 2, 1) := by decide +kernel
theorem dX11_live_126 : decode cX11_live 126 = .ok (.invokevirtual 147, 3) := by decide +kernel
theorem dX11_live_129 : decode cX11_live 129 = .ok (.ifCond .eq 12, 3) := by decide +kernel
theorem dX11_live_132 : decode cX11_live 132 = .ok (.aload_n 0, 1) := by decide +kernel
theorem dX11_live_133 : decode cX11_live 133 = .ok (.iload_n 1, 1) := by decide +kernel
theorem dX11_live_134 : decode cX11_live 134 = .ok (.iload_n 2, 1) := by decide +kernel
theorem dX11_live_135 : decode cX11_live 135 = .ok (.invokevirtual 206, 3) := by decide +kernel
theorem dX11_live_138 : decode cX11_live 138 = .ok (.goto 4, 3) := by decide +kernel
theorem dX11_live_141 : decode cX11_live 141 = .ok (.iconst (-1), 1) := by decide +kernel
theorem dX11_live_142 : decode cX11_live 142 = .ok (.ireturn, 1) := by decide +kernel
theorem dX11_live_143 : decode cX11_live 143 = .ok (.aload_n 0, 1) := by decide +kernel
theorem dX11_live_144 : decode cX11_live 144 = .ok (.getfield 114, 3) := by decide +kernel
theorem dX11_live_147 : decode cX11_live 147 = .ok (.iload_n 1, 1) := by decide +kernel
theorem dX11_live_148 : decode cX11_live 148 = .ok (.iaload, 1) := by decide +kernel
theorem dX11_live_149 : decode cX11_live 149 = .ok (.ireturn, 1) := by decide +kernel
set_option maxRecDepth 100000 in
theorem c_M_live (σ : MS) (p0 : Int32) (p1 : Int32) (p2 : Int32) (p3 : Int32) : Ct z (wM z τ) rI eqA yX11_live cX11_live 5 (some .int) 3 0 0 [.ref 0, .int p0, .int p1, .int p2, .int p3] σ (M_live σ p0 p1 p2 p3) := by
  refine Ct.of (by decide) (Nat.le_of_ble_eq_true rfl) (fun ad x hC hR _ => ?_)
  show AT z x 5 (wM z τ) rI (eqA ad) 0 0 0 0 ad 0 [(0, .ref 0), (1, .int p0), (2, .int p1), (3, .int p2), (4, .int p3)] [] σ (M_live σ p0 p1 p2 p3)
  unfold M_live
  refine at_aload_n (j := 0) hC rfl rfl dX11_live_0 ?_
  refine at_iload_n (j := 1) hC rfl rfl dX11_live_1 ?_
  refine at_callVpI hC hR lk_X11_133 (c_M_isPerson σ p0) dX11_live_2 recX11 rfl rfl ⟨by decide, by decide⟩ (Nat.le_of_ble_eq_true rfl) ⟨Nat.le_refl 0, Nat.le_refl 0⟩ (fun r1 _ => ?_)
  refine at_if_eq (tgt := 26) hC dX11_live_5 rfl (fun _ => ?_) (fun _ => ?_)
  · refine at_iconst hC ic_m1 dX11_live_26 ?_
    exact at_iret (F := eqA ad) (ra := rI) hC dX11_live_27 rfl (Nat.le_refl 0) (Nat.le_refl 0) rfl
  · refine at_aload_n (j := 0) hC rfl rfl dX11_live_8 ?_
    refine at_iload_n (j := 3) hC rfl rfl dX11_live_9 ?_
    refine at_callVpI hC hR lk_X11_212 (c_M_isBy σ p2) dX11_live_10 recX11 rfl rfl ⟨by decide, by decide⟩ (Nat.le_of_ble_eq_true rfl) ⟨Nat.le_refl 0, Nat.le_refl 0⟩ (fun r2 _ => ?_)
    refine at_if_eq (tgt := 26) hC dX11_live_13 rfl (fun _ => ?_) (fun _ => ?_)
    · refine at_iconst hC ic_m1 dX11_live_26 ?_
      exact at_iret (F := eqA ad) (ra := rI) hC dX11_live_27 rfl (Nat.le_refl 0) (Nat.le_refl 0) rfl
    · refine at_iload (j := 4) hC rfl dX11_live_16 ?_
      refine at_iconst hC ic_0 dX11_live_18 ?_
      refine at_iconst hC ic_5 dX11_live_19 ?_
      refine at_callSpI hC hR lk_X11_129 (c_M_in σ p3 0 5) dX11_live_20 rfl rfl ⟨by decide, by decide⟩ (Nat.le_of_ble_eq_true rfl) ⟨Nat.le_refl 0, Nat.le_refl 0⟩ (fun r3 _ => ?_)
      refine at_if_ne (tgt := 28) hC dX11_live_23 rfl (fun _ => ?_) (fun _ => ?_)
      · refine at_iload_n (j := 2) hC rfl rfl dX11_live_28 ?_
        refine at_callSpI hC hR lk_X11_177 (c_M_isDay σ p1) dX11_live_29 rfl rfl ⟨by decide, by decide⟩ (Nat.le_of_ble_eq_true rfl) ⟨Nat.le_refl 0, Nat.le_refl 0⟩ (fun r4 _ => ?_)
        refine at_if_ne (tgt := 38) hC dX11_live_32 rfl (fun _ => ?_) (fun _ => ?_)
        · refine at_aload_n (j := 0) hC rfl rfl dX11_live_38 ?_
          refine at_iload_n (j := 3) hC rfl rfl dX11_live_39 ?_
          refine at_callVU hC hR lk_X11_143 (c_M_looks σ p2) dX11_live_40 recX11 rfl rfl ⟨by decide, by decide⟩ (Nat.le_of_ble_eq_true rfl) ⟨Nat.le_refl 0, Nat.le_refl 0⟩ (fun r5 r5s _ => ?_)
          refine at_iload (j := 4) hC rfl dX11_live_43 ?_
          refine at_sw (off := 35) (tgt := 80) (v := 0) hC 0 dX11_live_45 rfl rfl (by decide) (by decide) swp0 ?_ (fun hp0 => ?_)
          · refine at_aload_n (j := 0) hC rfl rfl dX11_live_80 ?_
            refine at_iload_n (j := 1) hC rfl rfl dX11_live_81 ?_
            refine at_iload_n (j := 2) hC rfl rfl dX11_live_82 ?_
            refine at_callVpI hC hR lk_X11_180 (c_M_wedTo r5s p0 p1) dX11_live_83 recX11 rfl rfl ⟨by decide, by decide⟩ (Nat.le_of_ble_eq_true rfl) ⟨Nat.le_refl 0, Nat.le_refl 0⟩ (fun r6 _ => ?_)
            exact at_iret (F := eqA ad) (ra := rI) hC dX11_live_86 rfl (Nat.le_refl 0) (Nat.le_refl 0) rfl
          refine at_sw (off := 42) (tgt := 87) (v := 1) hC 1 dX11_live_45 rfl rfl (by decide) (by decide) hp0 ?_ (fun hp1 => ?_)
          · refine at_aload_n (j := 0) hC rfl rfl dX11_live_87 ?_
            refine at_iload_n (j := 1) hC rfl rfl dX11_live_88 ?_
            refine at_iload_n (j := 2) hC rfl rfl dX11_live_89 ?_
            refine at_callVpI hC hR lk_X11_165 (c_M_seatOf r5s p0 p1) dX11_live_90 recX11 rfl rfl ⟨by decide, by decide⟩ (Nat.le_of_ble_eq_true rfl) ⟨Nat.le_refl 0, Nat.le_refl 0⟩ (fun r7 _ => ?_)
            exact at_iret (F := eqA ad) (ra := rI) hC dX11_live_93 rfl (Nat.le_refl 0) (Nat.le_refl 0) rfl
          refine at_sw (off := 49) (tgt := 94) (v := 2) hC 2 dX11_live_45 rfl rfl (by decide) (by decide) hp1 ?_ (fun hp2 => ?_)
          · refine at_aload_n (j := 0) hC rfl rfl dX11_live_94 ?_
            refine at_iload_n (j := 1) hC rfl rfl dX11_live_95 ?_
            refine at_iconst hC ic_4 dX11_live_96 ?_
            refine at_iload_n (j := 2) hC rfl rfl dX11_live_97 ?_
            refine at_callVpI hC hR lk_X11_158 (c_M_lastOf r5s p0 4 p1) dX11_live_98 recX11 rfl rfl ⟨by decide, by decide⟩ (Nat.le_of_ble_eq_true rfl) ⟨Nat.le_refl 0, Nat.le_refl 0⟩ (fun r8 _ => ?_)
            refine at_iconst hC ic_m1 dX11_live_101 ?_
            refine at_icmp_ne (tgt := 109) hC dX11_live_102 rfl (fun _ => ?_) (fun _ => ?_)
            · refine at_aload_n (j := 0) hC rfl rfl dX11_live_109 ?_
              refine at_iload_n (j := 1) hC rfl rfl dX11_live_110 ?_
              refine at_iload_n (j := 2) hC rfl rfl dX11_live_111 ?_
              refine at_callVpI hC hR lk_X11_218 (c_M_rateAt r5s p0 p1) dX11_live_112 recX11 rfl rfl ⟨by decide, by decide⟩ (Nat.le_of_ble_eq_true rfl) ⟨Nat.le_refl 0, Nat.le_refl 0⟩ (fun r9 _ => ?_)
              exact at_iret (F := eqA ad) (ra := rI) hC dX11_live_115 rfl (Nat.le_refl 0) (Nat.le_refl 0) rfl
            · refine at_iconst hC ic_m1 dX11_live_105 ?_
              refine at_goto (tgt := 115) hC dX11_live_106 rfl ?_
              exact at_iret (F := eqA ad) (ra := rI) hC dX11_live_115 rfl (Nat.le_refl 0) (Nat.le_refl 0) rfl
          refine at_sw (off := 71) (tgt := 116) (v := 3) hC 3 dX11_live_45 rfl rfl (by decide) (by decide) hp2 ?_ (fun hp3 => ?_)
          · refine at_aload_n (j := 0) hC rfl rfl dX11_live_116 ?_
            refine at_iload_n (j := 1) hC rfl rfl dX11_live_117 ?_
            refine at_iload_n (j := 2) hC rfl rfl dX11_live_118 ?_
            refine at_callVpI hC hR lk_X11_203 (c_M_weddings r5s p0 p1) dX11_live_119 recX11 rfl rfl ⟨by decide, by decide⟩ (Nat.le_of_ble_eq_true rfl) ⟨Nat.le_refl 0, Nat.le_refl 0⟩ (fun r10 _ => ?_)
            exact at_iret (F := eqA ad) (ra := rI) hC dX11_live_122 rfl (Nat.le_refl 0) (Nat.le_refl 0) rfl
          refine at_sw (off := 78) (tgt := 123) (v := 4) hC 4 dX11_live_45 rfl rfl (by decide) (by decide) hp3 ?_ (fun hp4 => ?_)
          · refine at_aload_n (j := 0) hC rfl rfl dX11_live_123 ?_
            refine at_iload_n (j := 1) hC rfl rfl dX11_live_124 ?_
            refine at_iload_n (j := 2) hC rfl rfl dX11_live_125 ?_
            refine at_callVpI hC hR lk_X11_147 (c_M_lives r5s p0 p1) dX11_live_126 recX11 rfl rfl ⟨by decide, by decide⟩ (Nat.le_of_ble_eq_true rfl) ⟨Nat.le_refl 0, Nat.le_refl 0⟩ (fun r11 _ => ?_)
            refine at_if_eq (tgt := 141) hC dX11_live_129 rfl (fun _ => ?_) (fun _ => ?_)
            · refine at_iconst hC ic_m1 dX11_live_141 ?_
              exact at_iret (F := eqA ad) (ra := rI) hC dX11_live_142 rfl (Nat.le_refl 0) (Nat.le_refl 0) rfl
            · refine at_aload_n (j := 0) hC rfl rfl dX11_live_132 ?_
              refine at_iload_n (j := 1) hC rfl rfl dX11_live_133 ?_
              refine at_iload_n (j := 2) hC rfl rfl dX11_live_134 ?_
              refine at_callVpI hC hR lk_X11_206 (c_M_ageOf r5s p0 p1) dX11_live_135 recX11 rfl rfl ⟨by decide, by decide⟩ (Nat.le_of_ble_eq_true rfl) ⟨Nat.le_refl 0, Nat.le_refl 0⟩ (fun r12 _ => ?_)
              refine at_goto (tgt := 142) hC dX11_live_138 rfl ?_
              exact at_iret (F := eqA ad) (ra := rI) hC dX11_live_142 rfl (Nat.le_refl 0) (Nat.le_refl 0) rfl
          refine at_swd (tgt := 143) hC 5 dX11_live_45 rfl (by decide) hp4 ?_
          refine at_aload_n (j := 0) hC rfl rfl dX11_live_143 ?_
          refine gf_X11_114 hC dX11_live_144 ?_
          refine at_iload_n (j := 1) hC rfl rfl dX11_live_147 ?_
          refine at_iald hC 33 dX11_live_148 cl_33 (fun v13 => ?_)
          exact at_iret (F := eqA ad) (ra := rI) hC dX11_live_149 rfl (Nat.le_refl 0) (Nat.le_refl 0) rfl
        · refine at_bipush hC bi_m2 dX11_live_35 ?_
          exact at_iret (F := eqA ad) (ra := rI) hC dX11_live_37 rfl (Nat.le_refl 0) (Nat.le_refl 0) rfl
      · refine at_iconst hC ic_m1 dX11_live_26 ?_
        exact at_iret (F := eqA ad) (ra := rI) hC dX11_live_27 rfl (Nat.le_refl 0) (Nat.le_refl 0) rfl
theorem dX11_isUnder_0 : decode cX11_isUnder 0 = .ok (.iload_n 1, 1) := by decide +kernel
theorem dX11_isUnder_1 : decode cX11_isUnder 1 = .ok (.ifCond .eq 39, 3) := by decide +kernel
theorem dX11_isUnder_4 : decode cX11_isUnder 4 = .ok (.iload_n 0, 1) := by decide +kernel
theorem dX11_isUnder_5 : decode cX11_isUnder 5 = .ok (.iload_n 1, 1) := by decide +kernel
theorem dX11_isUnder_6 : decode cX11_isUnder 6 = .ok (.if_icmp .eq 34, 3) := by decide +kernel
theorem dX11_isUnder_9 : decode cX11_isUnder 9 = .ok (.iload_n 1, 1) := by decide +kernel
theorem dX11_isUnder_10 : decode cX11_isUnder 10 = .ok (.iconst 1, 1) := by decide +kernel
theorem dX11_isUnder_11 : decode cX11_isUnder 11 = .ok (.if_icmp .ne 19, 3) := by decide +kernel
theorem dX11_isUnder_14 : decode cX11_isUnder 14 = .ok (.iload_n 0, 1) := by decide +kernel
theorem dX11_isUnder_15 : decode cX11_isUnder 15 = .ok (.iconst 2, 1) := by decide +kernel
theorem dX11_isUnder_16 : decode cX11_isUnder 16 = .ok (.if_icmp .eq 24, 3) := by decide +kernel
theorem dX11_isUnder_19 : decode cX11_isUnder 19 = .ok (.iload_n 0, 1) := by decide +kernel
theorem dX11_isUnder_20 : decode cX11_isUnder 20 = .ok (.iconst 3, 1) := by decide +kernel
theorem dX11_isUnder_21 : decode cX11_isUnder 21 = .ok (.if_icmp .eq 19, 3) := by decide +kernel
theorem dX11_isUnder_24 : decode cX11_isUnder 24 = .ok (.iload_n 0, 1) := by decide +kernel
theorem dX11_isUnder_25 : decode cX11_isUnder 25 = .ok (.bipush 6, 2) := by decide +kernel
theorem dX11_isUnder_27 : decode cX11_isUnder 27 = .ok (.if_icmp .eq 13, 3) := by decide +kernel
theorem dX11_isUnder_30 : decode cX11_isUnder 30 = .ok (.iload_n 1, 1) := by decide +kernel
theorem dX11_isUnder_31 : decode cX11_isUnder 31 = .ok (.iconst 2, 1) := by decide +kernel
theorem dX11_isUnder_32 : decode cX11_isUnder 32 = .ok (.if_icmp .ne 12, 3) := by decide +kernel
theorem dX11_isUnder_35 : decode cX11_isUnder 35 = .ok (.iload_n 0, 1) := by decide +kernel
theorem dX11_isUnder_36 : decode cX11_isUnder 36 = .ok (.iconst 3, 1) := by decide +kernel
theorem dX11_isUnder_37 : decode cX11_isUnder 37 = .ok (.if_icmp .ne 7, 3) := by decide +kernel
theorem dX11_isUnder_40 : decode cX11_isUnder 40 = .ok (.iconst 1, 1) := by decide +kernel
theorem dX11_isUnder_41 : decode cX11_isUnder 41 = .ok (.goto 4, 3) := by decide +kernel
theorem dX11_isUnder_44 : decode cX11_isUnder 44 = .ok (.iconst 0, 1) := by decide +kernel
theorem dX11_isUnder_45 : decode cX11_isUnder 45 = .ok (.ireturn, 1) := by decide +kernel
set_option maxRecDepth 100000 in
theorem t_M_isUnder_J30 (hC : CX z ad x cX11_isUnder RX11 2 (some .boolean)) (hR : x.2.2.1 = rmk 1 0 0) (σ : MS) (a0 : Int32) (a1 : Int32) : AT z x 2 (wM z τ) rI (eqA ad) 0 0 0 0 ad 30 [(0, .int a0), (1, .int a1)] [] σ ((M_isUnder_J30 σ a0 a1).map fun r => (r, σ)) := by
  unfold M_isUnder_J30
  refine at_iload_n (j := 1) hC rfl rfl dX11_isUnder_30 ?_
  refine at_iconst hC ic_2 dX11_isUnder_31 ?_
  refine ap_icmp_ne (tgt := 44) hC dX11_isUnder_32 rfl (fun _ => ?_) (fun _ => ?_)
  · refine at_iconst hC ic_0 dX11_isUnder_44 ?_
    exact at_zret (F := eqA ad) (ra := rI) hC nb0 dX11_isUnder_45 rfl (Nat.le_refl 0) (Nat.le_refl 0) rfl
  · refine at_iload_n (j := 0) hC rfl rfl dX11_isUnder_35 ?_
    refine at_iconst hC ic_3 dX11_isUnder_36 ?_
    refine ap_icmp_ne (tgt := 44) hC dX11_isUnder_37 rfl (fun _ => ?_) (fun _ => ?_)
    · refine at_iconst hC ic_0 dX11_isUnder_44 ?_
      exact at_zret (F := eqA ad) (ra := rI) hC nb0 dX11_isUnder_45 rfl (Nat.le_refl 0) (Nat.le_refl 0) rfl
    · refine at_iconst hC ic_1 dX11_isUnder_40 ?_
      refine at_goto (tgt := 45) hC dX11_isUnder_41 rfl ?_
      exact at_zret (F := eqA ad) (ra := rI) hC nb1 dX11_isUnder_45 rfl (Nat.le_refl 0) (Nat.le_refl 0) rfl
set_option maxRecDepth 100000 in
theorem c_M_isUnder (σ : MS) (p0 : Int32) (p1 : Int32) : Ct z (wM z τ) rI eqA yX11_isUnder cX11_isUnder 2 (some .boolean) 1 0 0 [.int p0, .int p1] σ ((M_isUnder σ p0 p1).map fun r => (r, σ)) := by
  refine Ct.of (by decide) (Nat.le_of_ble_eq_true rfl) (fun ad x hC hR _ => ?_)
  show AT z x 2 (wM z τ) rI (eqA ad) 0 0 0 0 ad 0 [(0, .int p0), (1, .int p1)] [] σ ((M_isUnder σ p0 p1).map fun r => (r, σ))
  unfold M_isUnder
  refine at_iload_n (j := 1) hC rfl rfl dX11_isUnder_0 ?_
  refine ap_if_eq (tgt := 40) hC dX11_isUnder_1 rfl (fun _ => ?_) (fun _ => ?_)
  · refine at_iconst hC ic_1 dX11_isUnder_40 ?_
    refine at_goto (tgt := 45) hC dX11_isUnder_41 rfl ?_
    exact at_zret (F := eqA ad) (ra := rI) hC nb1 dX11_isUnder_45 rfl (Nat.le_refl 0) (Nat.le_refl 0) rfl
  · refine at_iload_n (j := 0) hC rfl rfl dX11_isUnder_4 ?_
    refine at_iload_n (j := 1) hC rfl rfl dX11_isUnder_5 ?_
    refine ap_icmp_eq (tgt := 40) hC dX11_isUnder_6 rfl (fun _ => ?_) (fun _ => ?_)
    · refine at_iconst hC ic_1 dX11_isUnder_40 ?_
      refine at_goto (tgt := 45) hC dX11_isUnder_41 rfl ?_
      exact at_zret (F := eqA ad) (ra := rI) hC nb1 dX11_isUnder_45 rfl (Nat.le_refl 0) (Nat.le_refl 0) rfl
    · refine at_iload_n (j := 1) hC rfl rfl dX11_isUnder_9 ?_
      refine at_iconst hC ic_1 dX11_isUnder_10 ?_
      refine ap_icmp_ne (tgt := 30) hC dX11_isUnder_11 rfl (fun _ => ?_) (fun _ => ?_)
      · exact t_M_isUnder_J30 hC hR σ p0 p1
      · refine at_iload_n (j := 0) hC rfl rfl dX11_isUnder_14 ?_
        refine at_iconst hC ic_2 dX11_isUnder_15 ?_
        refine ap_icmp_eq (tgt := 40) hC dX11_isUnder_16 rfl (fun _ => ?_) (fun _ => ?_)
        · refine at_iconst hC ic_1 dX11_isUnder_40 ?_
          refine at_goto (tgt := 45) hC dX11_isUnder_41 rfl ?_
          exact at_zret (F := eqA ad) (ra := rI) hC nb1 dX11_isUnder_45 rfl (Nat.le_refl 0) (Nat.le_refl 0) rfl
        · refine at_iload_n (j := 0) hC rfl rfl dX11_isUnder_19 ?_
          refine at_iconst hC ic_3 dX11_isUnder_20 ?_
          refine ap_icmp_eq (tgt := 40) hC dX11_isUnder_21 rfl (fun _ => ?_) (fun _ => ?_)
          · refine at_iconst hC ic_1 dX11_isUnder_40 ?_
            refine at_goto (tgt := 45) hC dX11_isUnder_41 rfl ?_
            exact at_zret (F := eqA ad) (ra := rI) hC nb1 dX11_isUnder_45 rfl (Nat.le_refl 0) (Nat.le_refl 0) rfl
          · refine at_iload_n (j := 0) hC rfl rfl dX11_isUnder_24 ?_
            refine at_bipush hC bi_6 dX11_isUnder_25 ?_
            refine ap_icmp_eq (tgt := 40) hC dX11_isUnder_27 rfl (fun _ => ?_) (fun _ => ?_)
            · refine at_iconst hC ic_1 dX11_isUnder_40 ?_
              refine at_goto (tgt := 45) hC dX11_isUnder_41 rfl ?_
              exact at_zret (F := eqA ad) (ra := rI) hC nb1 dX11_isUnder_45 rfl (Nat.le_refl 0) (Nat.le_refl 0) rfl
            · exact t_M_isUnder_J30 hC hR σ p0 p1
theorem dX11_part_0 : decode cX11_part 0 = .ok (.aload_n 0, 1) := by decide +kernel
theorem dX11_part_1 : decode cX11_part 1 = .ok (.iload_n 1, 1) := by decide +kernel
theorem dX11_part_2 : decode cX11_part 2 = .ok (.invokevirtual 133, 3) := by decide +kernel
theorem dX11_part_5 : decode cX11_part 5 = .ok (.ifCond .eq 22, 3) := by decide +kernel
theorem dX11_part_8 : decode cX11_part 8 = .ok (.iload_n 2, 1) := by decide +kernel
theorem dX11_part_9 : decode cX11_part 9 = .ok (.iconst 0, 1) := by decide +kernel
theorem dX11_part_10 : decode cX11_part 10 = .ok (.bipush 6, 2) := by decide +kernel
theorem dX11_part_12 : decode cX11_part 12 = .ok (.invokestatic 129, 3) := by decide +kernel
theorem dX11_part_15 : decode cX11_part 15 = .ok (.ifCond .eq 12, 3) := by decide +kernel
theorem dX11_part_18 : decode cX11_part 18 = .ok (.aload_n 0, 1) := by decide +kernel
theorem dX11_part_19 : decode cX11_part 19 = .ok (.iload 4, 2) := by decide +kernel
theorem dX11_part_21 : decode cX11_part 21 = .ok (.invokevirtual 212, 3) := by decide +kernel
theorem dX11_part_24 : decode cX11_part 24 = .ok (.ifCond .ne 5, 3) := by decide +kernel
theorem dX11_part_27 : decode cX11_part 27 = .ok (.iconst (-1), 1) := by decide +kernel
theorem dX11_part_28 : decode cX11_part 28 = .ok (.ireturn, 1) := by decide +kernel
theorem dX11_part_29 : decode cX11_part 29 = .ok (.iload_n 3, 1) := by decide +kernel
theorem dX11_part_30 : decode cX11_part 30 = .ok (.invokestatic 177, 3) := by decide +kernel
theorem dX11_part_33 : decode cX11_part 33 = .ok (.ifCond .ne 6, 3) := by decide +kernel
theorem dX11_part_36 : decode cX11_part 36 = .ok (.bipush (-2), 2) := by decide +kernel
theorem dX11_part_38 : decode cX11_part 38 = .ok (.ireturn, 1) := by decide +kernel
theorem dX11_part_39 : decode cX11_part 39 = .ok (.aload_n 0, 1) := by decide +kernel
theorem dX11_part_40 : decode cX11_part 40 = .ok (.iload 4, 2) := by decide +kernel
theorem dX11_part_42 : decode cX11_part 42 = .ok (.invokevirtual 143, 3) := by decide +kernel
theorem dX11_part_45 : decode cX11_part 45 = .ok (.aload_n 0, 1) := by decide +kernel
theorem dX11_part_46 : decode cX11_part 46 = .ok (.iload_n 1, 1) := by decide +kernel
theorem dX11_part_47 : decode cX11_part 47 = .ok (.iload_n 3, 1) := by decide +kernel
theorem dX11_part_48 : decode cX11_part 48 = .ok (.invokevirtual 147, 3) := by decide +kernel
theorem dX11_part_51 : decode cX11_part 51 = .ok (.ifCond .ne 8, 3) := by decide +kernel
theorem dX11_part_54 : decode cX11_part 54 = .ok (.bipush (-5), 2) := by decide +kernel
theorem dX11_part_56 : decode cX11_part 56 = .ok (.goto 27, 3) := by decide +kernel
theorem dX11_part_59 : decode cX11_part 59 = .ok (.aload_n 0, 1) := by decide +kernel
theorem dX11_part_60 : decode cX11_part 60 = .ok (.iload_n 1, 1) := by decide +kernel
theorem dX11_part_61 : decode cX11_part 61 = .ok (.iload_n 3, 1) := by decide +kernel
theorem dX11_part_62 : decode cX11_part 62 = .ok (.invokevirtual 215, 3) := by decide +kernel
theorem dX11_part_65 : decode cX11_part 65 = .ok (.iload_n 2, 1) := by decide +kernel
theorem dX11_part_66 : decode cX11_part 66 = .ok (.invokestatic 221, 3) := by decide +kernel
theorem dX11_part_69 : decode cX11_part 69 = .ok (.ifCond .eq 12, 3) := by decide +kernel
theorem dX11_part_72 : decode cX11_part 72 = .ok (.aload_n 0, 1) := by decide +kernel
theorem dX11_part_73 : decode cX11_part 73 = .ok (.iload_n 1, 1) := by decide +kernel
theorem dX11_part_74 : decode cX11_part 74 = .ok (.iload_n 3, 1) := by decide +kernel
theorem dX11_part_75 : decode cX11_part 75 = .ok (.invokevirtual 206, 3) := by decide +kernel
theorem dX11_part_78 : decode cX11_part 78 = .ok (.goto 5, 3) := by decide +kernel
theorem dX11_part_81 : decode cX11_part 81 = .ok (.bipush (-6), 2) := by decide +kernel
theorem dX11_part_83 : decode cX11_part 83 = .ok (.ireturn, 1) := by decide +kernel
set_option maxRecDepth 100000 in
theorem c_M_part (σ : MS) (p0 : Int32) (p1 : Int32) (p2 : Int32) (p3 : Int32) : Ct z (wM z τ) rI eqA yX11_part cX11_part 5 (some .int) 621 0 0 [.ref 0, .int p0, .int p1, .int p2, .int p3] σ (M_part σ p0 p1 p2 p3) := by
  refine Ct.of (by decide) (Nat.le_of_ble_eq_true rfl) (fun ad x hC hR _ => ?_)
  show AT z x 5 (wM z τ) rI (eqA ad) 0 0 0 0 ad 0 [(0, .ref 0), (1, .int p0), (2, .int p1), (3, .int p2), (4, .int p3)] [] σ (M_part σ p0 p1 p2 p3)
  unfold M_part
  refine at_aload_n (j := 0) hC rfl rfl dX11_part_0 ?_
  refine at_iload_n (j := 1) hC rfl rfl dX11_part_1 ?_
  refine at_callVpI hC hR lk_X11_133 (c_M_isPerson σ p0) dX11_part_2 recX11 rfl rfl ⟨by decide, by decide⟩ (Nat.le_of_ble_eq_true rfl) ⟨Nat.le_refl 0, Nat.le_refl 0⟩ (fun r1 _ => ?_)
  refine at_if_eq (tgt := 27) hC dX11_part_5 rfl (fun _ => ?_) (fun _ => ?_)
  · refine at_iconst hC ic_m1 dX11_part_27 ?_
    exact at_iret (F := eqA ad) (ra := rI) hC dX11_part_28 rfl (Nat.le_refl 0) (Nat.le_refl 0) rfl
  · refine at_iload_n (j := 2) hC rfl rfl dX11_part_8 ?_
    refine at_iconst hC ic_0 dX11_part_9 ?_
    refine at_bipush hC bi_6 dX11_part_10 ?_
    refine at_callSpI hC hR lk_X11_129 (c_M_in σ p1 0 6) dX11_part_12 rfl rfl ⟨by decide, by decide⟩ (Nat.le_of_ble_eq_true rfl) ⟨Nat.le_refl 0, Nat.le_refl 0⟩ (fun r2 _ => ?_)
    refine at_if_eq (tgt := 27) hC dX11_part_15 rfl (fun _ => ?_) (fun _ => ?_)
    · refine at_iconst hC ic_m1 dX11_part_27 ?_
      exact at_iret (F := eqA ad) (ra := rI) hC dX11_part_28 rfl (Nat.le_refl 0) (Nat.le_refl 0) rfl
    · refine at_aload_n (j := 0) hC rfl rfl dX11_part_18 ?_
      refine at_iload (j := 4) hC rfl dX11_part_19 ?_
      refine at_callVpI hC hR lk_X11_212 (c_M_isBy σ p3) dX11_part_21 recX11 rfl rfl ⟨by decide, by decide⟩ (Nat.le_of_ble_eq_true rfl) ⟨Nat.le_refl 0, Nat.le_refl 0⟩ (fun r3 _ => ?_)
      refine at_if_ne (tgt := 29) hC dX11_part_24 rfl (fun _ => ?_) (fun _ => ?_)
      · refine at_iload_n (j := 3) hC rfl rfl dX11_part_29 ?_
        refine at_callSpI hC hR lk_X11_177 (c_M_isDay σ p2) dX11_part_30 rfl rfl ⟨by decide, by decide⟩ (Nat.le_of_ble_eq_true rfl) ⟨Nat.le_refl 0, Nat.le_refl 0⟩ (fun r4 _ => ?_)
        refine at_if_ne (tgt := 39) hC dX11_part_33 rfl (fun _ => ?_) (fun _ => ?_)
        · refine at_aload_n (j := 0) hC rfl rfl dX11_part_39 ?_
          refine at_iload (j := 4) hC rfl dX11_part_40 ?_
          refine at_callVU hC hR lk_X11_143 (c_M_looks σ p3) dX11_part_42 recX11 rfl rfl ⟨by decide, by decide⟩ (Nat.le_of_ble_eq_true rfl) ⟨Nat.le_refl 0, Nat.le_refl 0⟩ (fun r5 r5s _ => ?_)
          refine at_aload_n (j := 0) hC rfl rfl dX11_part_45 ?_
          refine at_iload_n (j := 1) hC rfl rfl dX11_part_46 ?_
          refine at_iload_n (j := 3) hC rfl rfl dX11_part_47 ?_
          refine at_callVpI hC hR lk_X11_147 (c_M_lives r5s p0 p2) dX11_part_48 recX11 rfl rfl ⟨by decide, by decide⟩ (Nat.le_of_ble_eq_true rfl) ⟨Nat.le_refl 0, Nat.le_refl 0⟩ (fun r6 _ => ?_)
          refine at_if_ne (tgt := 59) hC dX11_part_51 rfl (fun _ => ?_) (fun _ => ?_)
          · refine at_aload_n (j := 0) hC rfl rfl dX11_part_59 ?_
            refine at_iload_n (j := 1) hC rfl rfl dX11_part_60 ?_
            refine at_iload_n (j := 3) hC rfl rfl dX11_part_61 ?_
            refine at_callVI hC hR lk_X11_215 (c_M_kindOf r5s p0 p2) dX11_part_62 recX11 rfl rfl ⟨by decide, by decide⟩ (Nat.le_of_ble_eq_true rfl) ⟨Nat.le_refl 0, Nat.le_refl 0⟩ (fun r7 r7s _ => ?_)
            refine at_iload_n (j := 2) hC rfl rfl dX11_part_65 ?_
            refine at_callSpI hC hR lk_X11_221 (c_M_isUnder r7s r7 p1) dX11_part_66 rfl rfl ⟨by decide, by decide⟩ (Nat.le_of_ble_eq_true rfl) ⟨Nat.le_refl 0, Nat.le_refl 0⟩ (fun r8 _ => ?_)
            refine at_if_eq (tgt := 81) hC dX11_part_69 rfl (fun _ => ?_) (fun _ => ?_)
            · refine at_bipush hC bi_m6 dX11_part_81 ?_
              exact at_iret (F := eqA ad) (ra := rI) hC dX11_part_83 rfl (Nat.le_refl 0) (Nat.le_refl 0) rfl
            · refine at_aload_n (j := 0) hC rfl rfl dX11_part_72 ?_
              refine at_iload_n (j := 1) hC rfl rfl dX11_part_73 ?_
              refine at_iload_n (j := 3) hC rfl rfl dX11_part_74 ?_
              refine at_callVpI hC hR lk_X11_206 (c_M_ageOf r7s p0 p2) dX11_part_75 recX11 rfl rfl ⟨by decide, by decide⟩ (Nat.le_of_ble_eq_true rfl) ⟨Nat.le_refl 0, Nat.le_refl 0⟩ (fun r9 _ => ?_)
              refine at_goto (tgt := 83) hC dX11_part_78 rfl ?_
              exact at_iret (F := eqA ad) (ra := rI) hC dX11_part_83 rfl (Nat.le_refl 0) (Nat.le_refl 0) rfl
          · refine at_bipush hC bi_m5 dX11_part_54 ?_
            refine at_goto (tgt := 83) hC dX11_part_56 rfl ?_
            exact at_iret (F := eqA ad) (ra := rI) hC dX11_part_83 rfl (Nat.le_refl 0) (Nat.le_refl 0) rfl
        · refine at_bipush hC bi_m2 dX11_part_36 ?_
          exact at_iret (F := eqA ad) (ra := rI) hC dX11_part_38 rfl (Nat.le_refl 0) (Nat.le_refl 0) rfl
      · refine at_iconst hC ic_m1 dX11_part_27 ?_
        exact at_iret (F := eqA ad) (ra := rI) hC dX11_part_28 rfl (Nat.le_refl 0) (Nat.le_refl 0) rfl
end G
