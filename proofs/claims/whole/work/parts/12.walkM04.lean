section G
variable {z : ZZ} {x : XX} {ad : Nat → Nat} {τ : XS}
theorem dX11_death_0 : decode cX11_death 0 = .ok (.aload_n 0, 1) := by decide +kernel
theorem dX11_death_1 : decode cX11_death 1 = .ok (.iload_n 1, 1) := by decide +kernel
theorem dX11_death_2 : decode cX11_death 2 = .ok (.invokevirtual 133, 3) := by decide +kernel
theorem dX11_death_5 : decode cX11_death 5 = .ok (.ifCond .ne 5, 3) := by decide +kernel
theorem dX11_death_8 : decode cX11_death 8 = .ok (.iconst (-1), 1) := by decide +kernel
theorem dX11_death_9 : decode cX11_death 9 = .ok (.ireturn, 1) := by decide +kernel
theorem dX11_death_10 : decode cX11_death 10 = .ok (.iload_n 2, 1) := by decide +kernel
theorem dX11_death_11 : decode cX11_death 11 = .ok (.invokestatic 177, 3) := by decide +kernel
theorem dX11_death_14 : decode cX11_death 14 = .ok (.ifCond .ne 6, 3) := by decide +kernel
theorem dX11_death_17 : decode cX11_death 17 = .ok (.bipush (-2), 2) := by decide +kernel
theorem dX11_death_19 : decode cX11_death 19 = .ok (.ireturn, 1) := by decide +kernel
theorem dX11_death_20 : decode cX11_death 20 = .ok (.aload_n 0, 1) := by decide +kernel
theorem dX11_death_21 : decode cX11_death 21 = .ok (.iconst (-1), 1) := by decide +kernel
theorem dX11_death_22 : decode cX11_death 22 = .ok (.invokevirtual 143, 3) := by decide +kernel
theorem dX11_death_25 : decode cX11_death 25 = .ok (.aload_n 0, 1) := by decide +kernel
theorem dX11_death_26 : decode cX11_death 26 = .ok (.iload_n 1, 1) := by decide +kernel
theorem dX11_death_27 : decode cX11_death 27 = .ok (.iload_n 2, 1) := by decide +kernel
theorem dX11_death_28 : decode cX11_death 28 = .ok (.invokevirtual 147, 3) := by decide +kernel
theorem dX11_death_31 : decode cX11_death 31 = .ok (.ifCond .eq 15, 3) := by decide +kernel
theorem dX11_death_34 : decode cX11_death 34 = .ok (.aload_n 0, 1) := by decide +kernel
theorem dX11_death_35 : decode cX11_death 35 = .ok (.iconst 0, 1) := by decide +kernel
theorem dX11_death_36 : decode cX11_death 36 = .ok (.iload_n 1, 1) := by decide +kernel
theorem dX11_death_37 : decode cX11_death 37 = .ok (.iconst (-1), 1) := by decide +kernel
theorem dX11_death_38 : decode cX11_death 38 = .ok (.iload_n 2, 1) := by decide +kernel
theorem dX11_death_39 : decode cX11_death 39 = .ok (.iconst (-1), 1) := by decide +kernel
theorem dX11_death_40 : decode cX11_death 40 = .ok (.invokevirtual 183, 3) := by decide +kernel
theorem dX11_death_43 : decode cX11_death 43 = .ok (.goto 5, 3) := by decide +kernel
theorem dX11_death_46 : decode cX11_death 46 = .ok (.bipush (-3), 2) := by decide +kernel
theorem dX11_death_48 : decode cX11_death 48 = .ok (.ireturn, 1) := by decide +kernel
set_option maxRecDepth 100000 in
theorem c_M_death (σ : MS) (p0 : Int32) (p1 : Int32) : Ct z (wM z τ) rI eqA yX11_death cX11_death 3 (some .int) 3 0 0 [.ref 0, .int p0, .int p1] σ (M_death σ p0 p1) := by
  refine Ct.of (by decide) (Nat.le_of_ble_eq_true rfl) (fun ad x hC hR _ => ?_)
  show AT z x 3 (wM z τ) rI (eqA ad) 0 0 0 0 ad 0 [(0, .ref 0), (1, .int p0), (2, .int p1)] [] σ (M_death σ p0 p1)
  unfold M_death
  refine at_aload_n (j := 0) hC rfl rfl dX11_death_0 ?_
  refine at_iload_n (j := 1) hC rfl rfl dX11_death_1 ?_
  refine at_callVpI hC hR lk_X11_133 (c_M_isPerson σ p0) dX11_death_2 recX11 rfl rfl ⟨by decide, by decide⟩ (Nat.le_of_ble_eq_true rfl) ⟨Nat.le_refl 0, Nat.le_refl 0⟩ (fun r1 _ => ?_)
  refine at_if_ne (tgt := 10) hC dX11_death_5 rfl (fun _ => ?_) (fun _ => ?_)
  · refine at_iload_n (j := 2) hC rfl rfl dX11_death_10 ?_
    refine at_callSpI hC hR lk_X11_177 (c_M_isDay σ p1) dX11_death_11 rfl rfl ⟨by decide, by decide⟩ (Nat.le_of_ble_eq_true rfl) ⟨Nat.le_refl 0, Nat.le_refl 0⟩ (fun r2 _ => ?_)
    refine at_if_ne (tgt := 20) hC dX11_death_14 rfl (fun _ => ?_) (fun _ => ?_)
    · refine at_aload_n (j := 0) hC rfl rfl dX11_death_20 ?_
      refine at_iconst hC ic_m1 dX11_death_21 ?_
      refine at_callVU hC hR lk_X11_143 (c_M_looks σ (-1)) dX11_death_22 recX11 rfl rfl ⟨by decide, by decide⟩ (Nat.le_of_ble_eq_true rfl) ⟨Nat.le_refl 0, Nat.le_refl 0⟩ (fun r3 r3s _ => ?_)
      refine at_aload_n (j := 0) hC rfl rfl dX11_death_25 ?_
      refine at_iload_n (j := 1) hC rfl rfl dX11_death_26 ?_
      refine at_iload_n (j := 2) hC rfl rfl dX11_death_27 ?_
      refine at_callVpI hC hR lk_X11_147 (c_M_lives r3s p0 p1) dX11_death_28 recX11 rfl rfl ⟨by decide, by decide⟩ (Nat.le_of_ble_eq_true rfl) ⟨Nat.le_refl 0, Nat.le_refl 0⟩ (fun r4 _ => ?_)
      refine at_if_eq (tgt := 46) hC dX11_death_31 rfl (fun _ => ?_) (fun _ => ?_)
      · refine at_bipush hC bi_m3 dX11_death_46 ?_
        exact at_iret (F := eqA ad) (ra := rI) hC dX11_death_48 rfl (Nat.le_refl 0) (Nat.le_refl 0) rfl
      · refine at_aload_n (j := 0) hC rfl rfl dX11_death_34 ?_
        refine at_iconst hC ic_0 dX11_death_35 ?_
        refine at_iload_n (j := 1) hC rfl rfl dX11_death_36 ?_
        refine at_iconst hC ic_m1 dX11_death_37 ?_
        refine at_iload_n (j := 2) hC rfl rfl dX11_death_38 ?_
        refine at_iconst hC ic_m1 dX11_death_39 ?_
        refine at_callVI hC hR lk_X11_183 (c_M_tells r3s 0 p0 (-1) p1 (-1)) dX11_death_40 recX11 rfl rfl ⟨by decide, by decide⟩ (Nat.le_of_ble_eq_true rfl) ⟨Nat.le_refl 0, Nat.le_refl 0⟩ (fun r5 r5s _ => ?_)
        refine at_goto (tgt := 48) hC dX11_death_43 rfl ?_
        exact at_iret (F := eqA ad) (ra := rI) hC dX11_death_48 rfl (Nat.le_refl 0) (Nat.le_refl 0) rfl
    · refine at_bipush hC bi_m2 dX11_death_17 ?_
      exact at_iret (F := eqA ad) (ra := rI) hC dX11_death_19 rfl (Nat.le_refl 0) (Nat.le_refl 0) rfl
  · refine at_iconst hC ic_m1 dX11_death_8 ?_
    exact at_iret (F := eqA ad) (ra := rI) hC dX11_death_9 rfl (Nat.le_refl 0) (Nat.le_refl 0) rfl
theorem dX11_member_0 : decode cX11_member 0 = .ok (.aload_n 0, 1) := by decide +kernel
theorem dX11_member_1 : decode cX11_member 1 = .ok (.iload_n 1, 1) := by decide +kernel
theorem dX11_member_2 : decode cX11_member 2 = .ok (.invokevirtual 133, 3) := by decide +kernel
theorem dX11_member_5 : decode cX11_member 5 = .ok (.ifCond .eq 17, 3) := by decide +kernel
theorem dX11_member_8 : decode cX11_member 8 = .ok (.iload_n 2, 1) := by decide +kernel
theorem dX11_member_9 : decode cX11_member 9 = .ok (.iconst 0, 1) := by decide +kernel
theorem dX11_member_10 : decode cX11_member 10 = .ok (.aload_n 0, 1) := by decide +kernel
theorem dX11_member_11 : decode cX11_member 11 = .ok (.getfield 171, 3) := by decide +kernel
theorem dX11_member_14 : decode cX11_member 14 = .ok (.iconst 1, 1) := by decide +kernel
theorem dX11_member_15 : decode cX11_member 15 = .ok (.isub, 1) := by decide +kernel
theorem dX11_member_16 : decode cX11_member 16 = .ok (.invokestatic 129, 3) := by decide +kernel
theorem dX11_member_19 : decode cX11_member 19 = .ok (.ifCond .ne 5, 3) := by decide +kernel
theorem dX11_member_22 : decode cX11_member 22 = .ok (.iconst (-1), 1) := by decide +kernel
theorem dX11_member_23 : decode cX11_member 23 = .ok (.ireturn, 1) := by decide +kernel
theorem dX11_member_24 : decode cX11_member 24 = .ok (.aload_n 0, 1) := by decide +kernel
theorem dX11_member_25 : decode cX11_member 25 = .ok (.getfield 11, 3) := by decide +kernel
theorem dX11_member_28 : decode cX11_member 28 = .ok (.iload_n 1, 1) := by decide +kernel
theorem dX11_member_29 : decode cX11_member 29 = .ok (.iaload, 1) := by decide +kernel
theorem dX11_member_30 : decode cX11_member 30 = .ok (.ifCond .ne 20, 3) := by decide +kernel
theorem dX11_member_33 : decode cX11_member 33 = .ok (.iload_n 3, 1) := by decide +kernel
theorem dX11_member_34 : decode cX11_member 34 = .ok (.iconst 0, 1) := by decide +kernel
theorem dX11_member_35 : decode cX11_member 35 = .ok (.iconst 3, 1) := by decide +kernel
theorem dX11_member_36 : decode cX11_member 36 = .ok (.invokestatic 129, 3) := by decide +kernel
theorem dX11_member_39 : decode cX11_member 39 = .ok (.ifCond .eq 11, 3) := by decide +kernel
theorem dX11_member_42 : decode cX11_member 42 = .ok (.iload 4, 2) := by decide +kernel
theorem dX11_member_44 : decode cX11_member 44 = .ok (.invokestatic 177, 3) := by decide +kernel
theorem dX11_member_47 : decode cX11_member 47 = .ok (.ifCond .ne 6, 3) := by decide +kernel
theorem dX11_member_50 : decode cX11_member 50 = .ok (.bipush (-2), 2) := by decide +kernel
theorem dX11_member_52 : decode cX11_member 52 = .ok (.ireturn, 1) := by decide +kernel
theorem dX11_member_53 : decode cX11_member 53 = .ok (.aload_n 0, 1) := by decide +kernel
theorem dX11_member_54 : decode cX11_member 54 = .ok (.iconst (-1), 1) := by decide +kernel
theorem dX11_member_55 : decode cX11_member 55 = .ok (.invokevirtual 143, 3) := by decide +kernel
theorem dX11_member_58 : decode cX11_member 58 = .ok (.aload_n 0, 1) := by decide +kernel
theorem dX11_member_59 : decode cX11_member 59 = .ok (.iload_n 1, 1) := by decide +kernel
theorem dX11_member_60 : decode cX11_member 60 = .ok (.iload 4, 2) := by decide +kernel
theorem dX11_member_62 : decode cX11_member 62 = .ok (.invokevirtual 147, 3) := by decide +kernel
theorem dX11_member_65 : decode cX11_member 65 = .ok (.ifCond .eq 33, 3) := by decide +kernel
theorem dX11_member_68 : decode cX11_member 68 = .ok (.aload_n 0, 1) := by decide +kernel
theorem dX11_member_69 : decode cX11_member 69 = .ok (.iload_n 1, 1) := by decide +kernel
theorem dX11_member_70 : decode cX11_member 70 = .ok (.iload 4, 2) := by decide +kernel
theorem dX11_member_72 : decode cX11_member 72 = .ok (.invokevirtual 162, 3) := by decide +kernel
theorem dX11_member_75 : decode cX11_member 75 = .ok (.ifCond .ne 23, 3) := by decide +kernel
theorem dX11_member_78 : decode cX11_member 78 = .ok (.aload_n 0, 1) := by decide +kernel
theorem dX11_member_79 : decode cX11_member 79 = .ok (.iload_n 1, 1) := by decide +kernel
theorem dX11_member_80 : decode cX11_member 80 = .ok (.iload 4, 2) := by decide +kernel
theorem dX11_member_82 : decode cX11_member 82 = .ok (.invokevirtual 187, 3) := by decide +kernel
theorem dX11_member_85 : decode cX11_member 85 = .ok (.ifCond .ne 13, 3) := by decide +kernel
theorem dX11_member_88 : decode cX11_member 88 = .ok (.aload_n 0, 1) := by decide +kernel
theorem dX11_member_89 : decode cX11_member 89 = .ok (.iload_n 2, 1) := by decide +kernel
theorem dX11_member_90 : decode cX11_member 90 = .ok (.iload 4, 2) := by decide +kernel
theorem dX11_member_92 : decode cX11_member 92 = .ok (.invokevirtual 190, 3) := by decide +kernel
theorem dX11_member_95 : decode cX11_member 95 = .ok (.ifCond .eq 6, 3) := by decide +kernel
theorem dX11_member_98 : decode cX11_member 98 = .ok (.bipush (-3), 2) := by decide +kernel
theorem dX11_member_100 : decode cX11_member 100 = .ok (.ireturn, 1) := by decide +kernel
theorem dX11_member_101 : decode cX11_member 101 = .ok (.aload_n 0, 1) := by decide +kernel
theorem dX11_member_102 : decode cX11_member 102 = .ok (.iconst 2, 1) := by decide +kernel
theorem dX11_member_103 : decode cX11_member 103 = .ok (.iload_n 1, 1) := by decide +kernel
theorem dX11_member_104 : decode cX11_member 104 = .ok (.iload_n 2, 1) := by decide +kernel
theorem dX11_member_105 : decode cX11_member 105 = .ok (.iload 4, 2) := by decide +kernel
theorem dX11_member_107 : decode cX11_member 107 = .ok (.iload_n 3, 1) := by decide +kernel
theorem dX11_member_108 : decode cX11_member 108 = .ok (.invokevirtual 183, 3) := by decide +kernel
theorem dX11_member_111 : decode cX11_member 111 = .ok (.ireturn, 1) := by decide +kernel
set_option maxRecDepth 100000 in
theorem c_M_member (σ : MS) (p0 : Int32) (p1 : Int32) (p2 : Int32) (p3 : Int32) : Ct z (wM z τ) rI eqA yX11_member cX11_member 5 (some .int) 4 0 0 [.ref 0, .int p0, .int p1, .int p2, .int p3] σ (M_member σ p0 p1 p2 p3) := by
  refine Ct.of (by decide) (Nat.le_of_ble_eq_true rfl) (fun ad x hC hR _ => ?_)
  show AT z x 5 (wM z τ) rI (eqA ad) 0 0 0 0 ad 0 [(0, .ref 0), (1, .int p0), (2, .int p1), (3, .int p2), (4, .int p3)] [] σ (M_member σ p0 p1 p2 p3)
  unfold M_member
  refine at_aload_n (j := 0) hC rfl rfl dX11_member_0 ?_
  refine at_iload_n (j := 1) hC rfl rfl dX11_member_1 ?_
  refine at_callVpI hC hR lk_X11_133 (c_M_isPerson σ p0) dX11_member_2 recX11 rfl rfl ⟨by decide, by decide⟩ (Nat.le_of_ble_eq_true rfl) ⟨Nat.le_refl 0, Nat.le_refl 0⟩ (fun r1 _ => ?_)
  refine at_if_eq (tgt := 22) hC dX11_member_5 rfl (fun _ => ?_) (fun _ => ?_)
  · refine at_iconst hC ic_m1 dX11_member_22 ?_
    exact at_iret (F := eqA ad) (ra := rI) hC dX11_member_23 rfl (Nat.le_refl 0) (Nat.le_refl 0) rfl
  · refine at_iload_n (j := 2) hC rfl rfl dX11_member_8 ?_
    refine at_iconst hC ic_0 dX11_member_9 ?_
    refine at_aload_n (j := 0) hC rfl rfl dX11_member_10 ?_
    refine gf_X11_171 hC dX11_member_11 ?_
    refine at_iconst hC ic_1 dX11_member_14 ?_
    refine at_isub hC dX11_member_15 ?_
    refine at_callSpI hC hR lk_X11_129 (c_M_in σ p1 0 ((σ.1 6) - 1)) dX11_member_16 rfl rfl ⟨by decide, by decide⟩ (Nat.le_of_ble_eq_true rfl) ⟨Nat.le_refl 0, Nat.le_refl 0⟩ (fun r2 _ => ?_)
    refine at_if_ne (tgt := 24) hC dX11_member_19 rfl (fun _ => ?_) (fun _ => ?_)
    · refine at_aload_n (j := 0) hC rfl rfl dX11_member_24 ?_
      refine gf_X11_11 hC dX11_member_25 ?_
      refine at_iload_n (j := 1) hC rfl rfl dX11_member_28 ?_
      refine at_iald hC 1 dX11_member_29 cl_1 (fun v3 => ?_)
      refine at_if_ne (tgt := 50) hC dX11_member_30 rfl (fun _ => ?_) (fun _ => ?_)
      · refine at_bipush hC bi_m2 dX11_member_50 ?_
        exact at_iret (F := eqA ad) (ra := rI) hC dX11_member_52 rfl (Nat.le_refl 0) (Nat.le_refl 0) rfl
      · refine at_iload_n (j := 3) hC rfl rfl dX11_member_33 ?_
        refine at_iconst hC ic_0 dX11_member_34 ?_
        refine at_iconst hC ic_3 dX11_member_35 ?_
        refine at_callSpI hC hR lk_X11_129 (c_M_in σ p2 0 3) dX11_member_36 rfl rfl ⟨by decide, by decide⟩ (Nat.le_of_ble_eq_true rfl) ⟨Nat.le_refl 0, Nat.le_refl 0⟩ (fun r4 _ => ?_)
        refine at_if_eq (tgt := 50) hC dX11_member_39 rfl (fun _ => ?_) (fun _ => ?_)
        · refine at_bipush hC bi_m2 dX11_member_50 ?_
          exact at_iret (F := eqA ad) (ra := rI) hC dX11_member_52 rfl (Nat.le_refl 0) (Nat.le_refl 0) rfl
        · refine at_iload (j := 4) hC rfl dX11_member_42 ?_
          refine at_callSpI hC hR lk_X11_177 (c_M_isDay σ p3) dX11_member_44 rfl rfl ⟨by decide, by decide⟩ (Nat.le_of_ble_eq_true rfl) ⟨Nat.le_refl 0, Nat.le_refl 0⟩ (fun r5 _ => ?_)
          refine at_if_ne (tgt := 53) hC dX11_member_47 rfl (fun _ => ?_) (fun _ => ?_)
          · refine at_aload_n (j := 0) hC rfl rfl dX11_member_53 ?_
            refine at_iconst hC ic_m1 dX11_member_54 ?_
            refine at_callVU hC hR lk_X11_143 (c_M_looks σ (-1)) dX11_member_55 recX11 rfl rfl ⟨by decide, by decide⟩ (Nat.le_of_ble_eq_true rfl) ⟨Nat.le_refl 0, Nat.le_refl 0⟩ (fun r6 r6s _ => ?_)
            refine at_aload_n (j := 0) hC rfl rfl dX11_member_58 ?_
            refine at_iload_n (j := 1) hC rfl rfl dX11_member_59 ?_
            refine at_iload (j := 4) hC rfl dX11_member_60 ?_
            refine at_callVpI hC hR lk_X11_147 (c_M_lives r6s p0 p3) dX11_member_62 recX11 rfl rfl ⟨by decide, by decide⟩ (Nat.le_of_ble_eq_true rfl) ⟨Nat.le_refl 0, Nat.le_refl 0⟩ (fun r7 _ => ?_)
            refine at_if_eq (tgt := 98) hC dX11_member_65 rfl (fun _ => ?_) (fun _ => ?_)
            · refine at_bipush hC bi_m3 dX11_member_98 ?_
              exact at_iret (F := eqA ad) (ra := rI) hC dX11_member_100 rfl (Nat.le_refl 0) (Nat.le_refl 0) rfl
            · refine at_aload_n (j := 0) hC rfl rfl dX11_member_68 ?_
              refine at_iload_n (j := 1) hC rfl rfl dX11_member_69 ?_
              refine at_iload (j := 4) hC rfl dX11_member_70 ?_
              refine at_callVpI hC hR lk_X11_162 (c_M_isMember r6s p0 p3) dX11_member_72 recX11 rfl rfl ⟨by decide, by decide⟩ (Nat.le_of_ble_eq_true rfl) ⟨Nat.le_refl 0, Nat.le_refl 0⟩ (fun r8 _ => ?_)
              refine at_if_ne (tgt := 98) hC dX11_member_75 rfl (fun _ => ?_) (fun _ => ?_)
              · refine at_bipush hC bi_m3 dX11_member_98 ?_
                exact at_iret (F := eqA ad) (ra := rI) hC dX11_member_100 rfl (Nat.le_refl 0) (Nat.le_refl 0) rfl
              · refine at_aload_n (j := 0) hC rfl rfl dX11_member_78 ?_
                refine at_iload_n (j := 1) hC rfl rfl dX11_member_79 ?_
                refine at_iload (j := 4) hC rfl dX11_member_80 ?_
                refine at_callVpI hC hR lk_X11_187 (c_M_isGone r6s p0 p3) dX11_member_82 recX11 rfl rfl ⟨by decide, by decide⟩ (Nat.le_of_ble_eq_true rfl) ⟨Nat.le_refl 0, Nat.le_refl 0⟩ (fun r9 _ => ?_)
                refine at_if_ne (tgt := 98) hC dX11_member_85 rfl (fun _ => ?_) (fun _ => ?_)
                · refine at_bipush hC bi_m3 dX11_member_98 ?_
                  exact at_iret (F := eqA ad) (ra := rI) hC dX11_member_100 rfl (Nat.le_refl 0) (Nat.le_refl 0) rfl
                · refine at_aload_n (j := 0) hC rfl rfl dX11_member_88 ?_
                  refine at_iload_n (j := 2) hC rfl rfl dX11_member_89 ?_
                  refine at_iload (j := 4) hC rfl dX11_member_90 ?_
                  refine at_callVpI hC hR lk_X11_190 (c_M_isSeated r6s p1 p3) dX11_member_92 recX11 rfl rfl ⟨by decide, by decide⟩ (Nat.le_of_ble_eq_true rfl) ⟨Nat.le_refl 0, Nat.le_refl 0⟩ (fun r10 _ => ?_)
                  refine at_if_eq (tgt := 101) hC dX11_member_95 rfl (fun _ => ?_) (fun _ => ?_)
                  · refine at_aload_n (j := 0) hC rfl rfl dX11_member_101 ?_
                    refine at_iconst hC ic_2 dX11_member_102 ?_
                    refine at_iload_n (j := 1) hC rfl rfl dX11_member_103 ?_
                    refine at_iload_n (j := 2) hC rfl rfl dX11_member_104 ?_
                    refine at_iload (j := 4) hC rfl dX11_member_105 ?_
                    refine at_iload_n (j := 3) hC rfl rfl dX11_member_107 ?_
                    refine at_callVI hC hR lk_X11_183 (c_M_tells r6s 2 p0 p1 p3 p2) dX11_member_108 recX11 rfl rfl ⟨by decide, by decide⟩ (Nat.le_of_ble_eq_true rfl) ⟨Nat.le_refl 0, Nat.le_refl 0⟩ (fun r11 r11s _ => ?_)
                    exact at_iret (F := eqA ad) (ra := rI) hC dX11_member_111 rfl (Nat.le_refl 0) (Nat.le_refl 0) rfl
                  · refine at_bipush hC bi_m3 dX11_member_98 ?_
                    exact at_iret (F := eqA ad) (ra := rI) hC dX11_member_100 rfl (Nat.le_refl 0) (Nat.le_refl 0) rfl
          · refine at_bipush hC bi_m2 dX11_member_50 ?_
            exact at_iret (F := eqA ad) (ra := rI) hC dX11_member_52 rfl (Nat.le_refl 0) (Nat.le_refl 0) rfl
    · refine at_iconst hC ic_m1 dX11_member_22 ?_
      exact at_iret (F := eqA ad) (ra := rI) hC dX11_member_23 rfl (Nat.le_refl 0) (Nat.le_refl 0) rfl
theorem dX11_rate_0 : decode cX11_rate 0 = .ok (.aload_n 0, 1) := by decide +kernel
theorem dX11_rate_1 : decode cX11_rate 1 = .ok (.iload_n 1, 1) := by decide +kernel
theorem dX11_rate_2 : decode cX11_rate 2 = .ok (.invokevirtual 133, 3) := by decide +kernel
theorem dX11_rate_5 : decode cX11_rate 5 = .ok (.ifCond .ne 5, 3) := by decide +kernel
theorem dX11_rate_8 : decode cX11_rate 8 = .ok (.iconst (-1), 1) := by decide +kernel
theorem dX11_rate_9 : decode cX11_rate 9 = .ok (.ireturn, 1) := by decide +kernel
theorem dX11_rate_10 : decode cX11_rate 10 = .ok (.aload_n 0, 1) := by decide +kernel
theorem dX11_rate_11 : decode cX11_rate 11 = .ok (.getfield 11, 3) := by decide +kernel
theorem dX11_rate_14 : decode cX11_rate 14 = .ok (.iload_n 1, 1) := by decide +kernel
theorem dX11_rate_15 : decode cX11_rate 15 = .ok (.iaload, 1) := by decide +kernel
theorem dX11_rate_16 : decode cX11_rate 16 = .ok (.ifCond .ne 19, 3) := by decide +kernel
theorem dX11_rate_19 : decode cX11_rate 19 = .ok (.iload_n 2, 1) := by decide +kernel
theorem dX11_rate_20 : decode cX11_rate 20 = .ok (.iconst 0, 1) := by decide +kernel
theorem dX11_rate_21 : decode cX11_rate 21 = .ok (.iconst 3, 1) := by decide +kernel
theorem dX11_rate_22 : decode cX11_rate 22 = .ok (.invokestatic 129, 3) := by decide +kernel
theorem dX11_rate_25 : decode cX11_rate 25 = .ok (.ifCond .eq 10, 3) := by decide +kernel
theorem dX11_rate_28 : decode cX11_rate 28 = .ok (.iload_n 3, 1) := by decide +kernel
theorem dX11_rate_29 : decode cX11_rate 29 = .ok (.invokestatic 177, 3) := by decide +kernel
theorem dX11_rate_32 : decode cX11_rate 32 = .ok (.ifCond .ne 6, 3) := by decide +kernel
theorem dX11_rate_35 : decode cX11_rate 35 = .ok (.bipush (-2), 2) := by decide +kernel
theorem dX11_rate_37 : decode cX11_rate 37 = .ok (.ireturn, 1) := by decide +kernel
theorem dX11_rate_38 : decode cX11_rate 38 = .ok (.aload_n 0, 1) := by decide +kernel
theorem dX11_rate_39 : decode cX11_rate 39 = .ok (.iconst (-1), 1) := by decide +kernel
theorem dX11_rate_40 : decode cX11_rate 40 = .ok (.invokevirtual 143, 3) := by decide +kernel
theorem dX11_rate_43 : decode cX11_rate 43 = .ok (.aload_n 0, 1) := by decide +kernel
theorem dX11_rate_44 : decode cX11_rate 44 = .ok (.iload_n 1, 1) := by decide +kernel
theorem dX11_rate_45 : decode cX11_rate 45 = .ok (.iload_n 3, 1) := by decide +kernel
theorem dX11_rate_46 : decode cX11_rate 46 = .ok (.invokevirtual 162, 3) := by decide +kernel
theorem dX11_rate_49 : decode cX11_rate 49 = .ok (.ifCond .eq 15, 3) := by decide +kernel
theorem dX11_rate_52 : decode cX11_rate 52 = .ok (.aload_n 0, 1) := by decide +kernel
theorem dX11_rate_53 : decode cX11_rate 53 = .ok (.iconst 3, 1) := by decide +kernel
theorem dX11_rate_54 : decode cX11_rate 54 = .ok (.iload_n 1, 1) := by decide +kernel
theorem dX11_rate_55 : decode cX11_rate 55 = .ok (.iload_n 2, 1) := by decide +kernel
theorem dX11_rate_56 : decode cX11_rate 56 = .ok (.iload_n 3, 1) := by decide +kernel
theorem dX11_rate_57 : decode cX11_rate 57 = .ok (.iconst (-1), 1) := by decide +kernel
theorem dX11_rate_58 : decode cX11_rate 58 = .ok (.invokevirtual 183, 3) := by decide +kernel
theorem dX11_rate_61 : decode cX11_rate 61 = .ok (.goto 5, 3) := by decide +kernel
theorem dX11_rate_64 : decode cX11_rate 64 = .ok (.bipush (-3), 2) := by decide +kernel
theorem dX11_rate_66 : decode cX11_rate 66 = .ok (.ireturn, 1) := by decide +kernel
set_option maxRecDepth 100000 in
theorem c_M_rate (σ : MS) (p0 : Int32) (p1 : Int32) (p2 : Int32) : Ct z (wM z τ) rI eqA yX11_rate cX11_rate 4 (some .int) 3 0 0 [.ref 0, .int p0, .int p1, .int p2] σ (M_rate σ p0 p1 p2) := by
  refine Ct.of (by decide) (Nat.le_of_ble_eq_true rfl) (fun ad x hC hR _ => ?_)
  show AT z x 4 (wM z τ) rI (eqA ad) 0 0 0 0 ad 0 [(0, .ref 0), (1, .int p0), (2, .int p1), (3, .int p2)] [] σ (M_rate σ p0 p1 p2)
  unfold M_rate
  refine at_aload_n (j := 0) hC rfl rfl dX11_rate_0 ?_
  refine at_iload_n (j := 1) hC rfl rfl dX11_rate_1 ?_
  refine at_callVpI hC hR lk_X11_133 (c_M_isPerson σ p0) dX11_rate_2 recX11 rfl rfl ⟨by decide, by decide⟩ (Nat.le_of_ble_eq_true rfl) ⟨Nat.le_refl 0, Nat.le_refl 0⟩ (fun r1 _ => ?_)
  refine at_if_ne (tgt := 10) hC dX11_rate_5 rfl (fun _ => ?_) (fun _ => ?_)
  · refine at_aload_n (j := 0) hC rfl rfl dX11_rate_10 ?_
    refine gf_X11_11 hC dX11_rate_11 ?_
    refine at_iload_n (j := 1) hC rfl rfl dX11_rate_14 ?_
    refine at_iald hC 1 dX11_rate_15 cl_1 (fun v2 => ?_)
    refine at_if_ne (tgt := 35) hC dX11_rate_16 rfl (fun _ => ?_) (fun _ => ?_)
    · refine at_bipush hC bi_m2 dX11_rate_35 ?_
      exact at_iret (F := eqA ad) (ra := rI) hC dX11_rate_37 rfl (Nat.le_refl 0) (Nat.le_refl 0) rfl
    · refine at_iload_n (j := 2) hC rfl rfl dX11_rate_19 ?_
      refine at_iconst hC ic_0 dX11_rate_20 ?_
      refine at_iconst hC ic_3 dX11_rate_21 ?_
      refine at_callSpI hC hR lk_X11_129 (c_M_in σ p1 0 3) dX11_rate_22 rfl rfl ⟨by decide, by decide⟩ (Nat.le_of_ble_eq_true rfl) ⟨Nat.le_refl 0, Nat.le_refl 0⟩ (fun r3 _ => ?_)
      refine at_if_eq (tgt := 35) hC dX11_rate_25 rfl (fun _ => ?_) (fun _ => ?_)
      · refine at_bipush hC bi_m2 dX11_rate_35 ?_
        exact at_iret (F := eqA ad) (ra := rI) hC dX11_rate_37 rfl (Nat.le_refl 0) (Nat.le_refl 0) rfl
      · refine at_iload_n (j := 3) hC rfl rfl dX11_rate_28 ?_
        refine at_callSpI hC hR lk_X11_177 (c_M_isDay σ p2) dX11_rate_29 rfl rfl ⟨by decide, by decide⟩ (Nat.le_of_ble_eq_true rfl) ⟨Nat.le_refl 0, Nat.le_refl 0⟩ (fun r4 _ => ?_)
        refine at_if_ne (tgt := 38) hC dX11_rate_32 rfl (fun _ => ?_) (fun _ => ?_)
        · refine at_aload_n (j := 0) hC rfl rfl dX11_rate_38 ?_
          refine at_iconst hC ic_m1 dX11_rate_39 ?_
          refine at_callVU hC hR lk_X11_143 (c_M_looks σ (-1)) dX11_rate_40 recX11 rfl rfl ⟨by decide, by decide⟩ (Nat.le_of_ble_eq_true rfl) ⟨Nat.le_refl 0, Nat.le_refl 0⟩ (fun r5 r5s _ => ?_)
          refine at_aload_n (j := 0) hC rfl rfl dX11_rate_43 ?_
          refine at_iload_n (j := 1) hC rfl rfl dX11_rate_44 ?_
          refine at_iload_n (j := 3) hC rfl rfl dX11_rate_45 ?_
          refine at_callVpI hC hR lk_X11_162 (c_M_isMember r5s p0 p2) dX11_rate_46 recX11 rfl rfl ⟨by decide, by decide⟩ (Nat.le_of_ble_eq_true rfl) ⟨Nat.le_refl 0, Nat.le_refl 0⟩ (fun r6 _ => ?_)
          refine at_if_eq (tgt := 64) hC dX11_rate_49 rfl (fun _ => ?_) (fun _ => ?_)
          · refine at_bipush hC bi_m3 dX11_rate_64 ?_
            exact at_iret (F := eqA ad) (ra := rI) hC dX11_rate_66 rfl (Nat.le_refl 0) (Nat.le_refl 0) rfl
          · refine at_aload_n (j := 0) hC rfl rfl dX11_rate_52 ?_
            refine at_iconst hC ic_3 dX11_rate_53 ?_
            refine at_iload_n (j := 1) hC rfl rfl dX11_rate_54 ?_
            refine at_iload_n (j := 2) hC rfl rfl dX11_rate_55 ?_
            refine at_iload_n (j := 3) hC rfl rfl dX11_rate_56 ?_
            refine at_iconst hC ic_m1 dX11_rate_57 ?_
            refine at_callVI hC hR lk_X11_183 (c_M_tells r5s 3 p0 p1 p2 (-1)) dX11_rate_58 recX11 rfl rfl ⟨by decide, by decide⟩ (Nat.le_of_ble_eq_true rfl) ⟨Nat.le_refl 0, Nat.le_refl 0⟩ (fun r7 r7s _ => ?_)
            refine at_goto (tgt := 66) hC dX11_rate_61 rfl ?_
            exact at_iret (F := eqA ad) (ra := rI) hC dX11_rate_66 rfl (Nat.le_refl 0) (Nat.le_refl 0) rfl
        · refine at_bipush hC bi_m2 dX11_rate_35 ?_
          exact at_iret (F := eqA ad) (ra := rI) hC dX11_rate_37 rfl (Nat.le_refl 0) (Nat.le_refl 0) rfl
  · refine at_iconst hC ic_m1 dX11_rate_8 ?_
    exact at_iret (F := eqA ad) (ra := rI) hC dX11_rate_9 rfl (Nat.le_refl 0) (Nat.le_refl 0) rfl
theorem dX11_gone_0 : decode cX11_gone 0 = .ok (.aload_n 0, 1) := by decide +kernel
theorem dX11_gone_1 : decode cX11_gone 1 = .ok (.iload_n 1, 1) := by decide +kernel
theorem dX11_gone_2 : decode cX11_gone 2 = .ok (.invokevirtual 133, 3) := by decide +kernel
theorem dX11_gone_5 : decode cX11_gone 5 = .ok (.ifCond .ne 5, 3) := by decide +kernel
theorem dX11_gone_8 : decode cX11_gone 8 = .ok (.iconst (-1), 1) := by decide +kernel
theorem dX11_gone_9 : decode cX11_gone 9 = .ok (.ireturn, 1) := by decide +kernel
theorem dX11_gone_10 : decode cX11_gone 10 = .ok (.aload_n 0, 1) := by decide +kernel
theorem dX11_gone_11 : decode cX11_gone 11 = .ok (.getfield 11, 3) := by decide +kernel
theorem dX11_gone_14 : decode cX11_gone 14 = .ok (.iload_n 1, 1) := by decide +kernel
theorem dX11_gone_15 : decode cX11_gone 15 = .ok (.iaload, 1) := by decide +kernel
theorem dX11_gone_16 : decode cX11_gone 16 = .ok (.ifCond .ne 10, 3) := by decide +kernel
theorem dX11_gone_19 : decode cX11_gone 19 = .ok (.iload_n 3, 1) := by decide +kernel
theorem dX11_gone_20 : decode cX11_gone 20 = .ok (.invokestatic 177, 3) := by decide +kernel
theorem dX11_gone_23 : decode cX11_gone 23 = .ok (.ifCond .ne 6, 3) := by decide +kernel
theorem dX11_gone_26 : decode cX11_gone 26 = .ok (.bipush (-2), 2) := by decide +kernel
theorem dX11_gone_28 : decode cX11_gone 28 = .ok (.ireturn, 1) := by decide +kernel
theorem dX11_gone_29 : decode cX11_gone 29 = .ok (.aload_n 0, 1) := by decide +kernel
theorem dX11_gone_30 : decode cX11_gone 30 = .ok (.iconst (-1), 1) := by decide +kernel
theorem dX11_gone_31 : decode cX11_gone 31 = .ok (.invokevirtual 143, 3) := by decide +kernel
theorem dX11_gone_34 : decode cX11_gone 34 = .ok (.iload_n 2, 1) := by decide +kernel
theorem dX11_gone_35 : decode cX11_gone 35 = .ok (.ifCond .eq 34, 3) := by decide +kernel
theorem dX11_gone_38 : decode cX11_gone 38 = .ok (.aload_n 0, 1) := by decide +kernel
theorem dX11_gone_39 : decode cX11_gone 39 = .ok (.iload_n 1, 1) := by decide +kernel
theorem dX11_gone_40 : decode cX11_gone 40 = .ok (.iload_n 3, 1) := by decide +kernel
theorem dX11_gone_41 : decode cX11_gone 41 = .ok (.invokevirtual 187, 3) := by decide +kernel
theorem dX11_gone_44 : decode cX11_gone 44 = .ok (.ifCond .eq 21, 3) := by decide +kernel
theorem dX11_gone_47 : decode cX11_gone 47 = .ok (.aload_n 0, 1) := by decide +kernel
theorem dX11_gone_48 : decode cX11_gone 48 = .ok (.aload_n 0, 1) := by decide +kernel
theorem dX11_gone_49 : decode cX11_gone 49 = .ok (.iload_n 1, 1) := by decide +kernel
theorem dX11_gone_50 : decode cX11_gone 50 = .ok (.iload_n 3, 1) := by decide +kernel
theorem dX11_gone_51 : decode cX11_gone 51 = .ok (.invokevirtual 165, 3) := by decide +kernel
theorem dX11_gone_54 : decode cX11_gone 54 = .ok (.iload_n 3, 1) := by decide +kernel
theorem dX11_gone_55 : decode cX11_gone 55 = .ok (.invokevirtual 190, 3) := by decide +kernel
theorem dX11_gone_58 : decode cX11_gone 58 = .ok (.ifCond .ne 7, 3) := by decide +kernel
theorem dX11_gone_61 : decode cX11_gone 61 = .ok (.iconst 1, 1) := by decide +kernel
theorem dX11_gone_62 : decode cX11_gone 62 = .ok (.goto 13, 3) := by decide +kernel
theorem dX11_gone_65 : decode cX11_gone 65 = .ok (.iconst 0, 1) := by decide +kernel
theorem dX11_gone_66 : decode cX11_gone 66 = .ok (.goto 9, 3) := by decide +kernel
theorem dX11_gone_69 : decode cX11_gone 69 = .ok (.aload_n 0, 1) := by decide +kernel
theorem dX11_gone_70 : decode cX11_gone 70 = .ok (.iload_n 1, 1) := by decide +kernel
theorem dX11_gone_71 : decode cX11_gone 71 = .ok (.iload_n 3, 1) := by decide +kernel
theorem dX11_gone_72 : decode cX11_gone 72 = .ok (.invokevirtual 162, 3) := by decide +kernel
theorem dX11_gone_75 : decode cX11_gone 75 = .ok (.istore 4, 2) := by decide +kernel
theorem dX11_gone_77 : decode cX11_gone 77 = .ok (.iload 4, 2) := by decide +kernel
theorem dX11_gone_79 : decode cX11_gone 79 = .ok (.ifCond .eq 23, 3) := by decide +kernel
theorem dX11_gone_82 : decode cX11_gone 82 = .ok (.aload_n 0, 1) := by decide +kernel
theorem dX11_gone_83 : decode cX11_gone 83 = .ok (.iload_n 2, 1) := by decide +kernel
theorem dX11_gone_84 : decode cX11_gone 84 = .ok (.ifCond .eq 7, 3) := by decide +kernel
theorem dX11_gone_87 : decode cX11_gone 87 = .ok (.iconst 5, 1) := by decide +kernel
theorem dX11_gone_88 : decode cX11_gone 88 = .ok (.goto 4, 3) := by decide +kernel
theorem dX11_gone_91 : decode cX11_gone 91 = .ok (.iconst 4, 1) := by decide +kernel
theorem dX11_gone_92 : decode cX11_gone 92 = .ok (.iload_n 1, 1) := by decide +kernel
theorem dX11_gone_93 : decode cX11_gone 93 = .ok (.iconst (-1), 1) := by decide +kernel
theorem dX11_gone_94 : decode cX11_gone 94 = .ok (.iload_n 3, 1) := by decide +kernel
theorem dX11_gone_95 : decode cX11_gone 95 = .ok (.iconst (-1), 1) := by decide +kernel
theorem dX11_gone_96 : decode cX11_gone 96 = .ok (.invokevirtual 183, 3) := by decide +kernel
theorem dX11_gone_99 : decode cX11_gone 99 = .ok (.goto 5, 3) := by decide +kernel
theorem dX11_gone_102 : decode cX11_gone 102 = .ok (.bipush (-3), 2) := by decide +kernel
theorem dX11_gone_104 : decode cX11_gone 104 = .ok (.ireturn, 1) := by decide +kernel
set_option maxRecDepth 100000 in
theorem t_M_gone_J92 (hC : CX z ad x cX11_gone RX11 5 (some .int)) (hR : x.2.2.1 = rmk 4 0 0) (σ : MS) (a1 : Int32) (a3 : Int32) (s0 : Int32) : AT z x 5 (wM z τ) rI (eqA ad) 0 0 0 0 ad 92 [(1, .int a1), (3, .int a3)] [.int s0, .ref 0] σ (M_gone_J92 σ a1 a3 s0) := by
  unfold M_gone_J92
  refine at_iload_n (j := 0) hC rfl rfl dX11_gone_92 ?_
  refine at_iconst hC ic_m1 dX11_gone_93 ?_
  refine at_iload_n (j := 1) hC rfl rfl dX11_gone_94 ?_
  refine at_iconst hC ic_m1 dX11_gone_95 ?_
  refine at_callVI hC hR lk_X11_183 (c_M_tells σ s0 a1 (-1) a3 (-1)) dX11_gone_96 recX11 rfl rfl ⟨by decide, by decide⟩ (Nat.le_of_ble_eq_true rfl) ⟨Nat.le_refl 0, Nat.le_refl 0⟩ (fun r6 r6s _ => ?_)
  refine at_goto (tgt := 104) hC dX11_gone_99 rfl ?_
  exact at_iret (F := eqA ad) (ra := rI) hC dX11_gone_104 rfl (Nat.le_refl 0) (Nat.le_refl 0) rfl
set_option maxRecDepth 100000 in
theorem t_M_gone_J75 (hC : CX z ad x cX11_gone RX11 5 (some .int)) (hR : x.2.2.1 = rmk 4 0 0) (σ : MS) (a1 : Int32) (a2 : Int32) (a3 : Int32) (s0 : Int32) : AT z x 5 (wM z τ) rI (eqA ad) 0 0 0 0 ad 75 [(0, .ref 0), (1, .int a1), (2, .int a2), (3, .int a3)] [.int s0] σ (M_gone_J75 σ a1 a2 a3 s0) := by
  unfold M_gone_J75
  refine at_istore (lv' := [(4, .int s0), (0, .ref 0), (1, .int a1), (2, .int a2), (3, .int a3)]) hC dX11_gone_75 (by decide) rfl ?_
  refine at_iload (j := 0) hC rfl dX11_gone_77 ?_
  refine at_if_eq (tgt := 102) hC dX11_gone_79 rfl (fun _ => ?_) (fun _ => ?_)
  · refine at_bipush hC bi_m3 dX11_gone_102 ?_
    exact at_iret (F := eqA ad) (ra := rI) hC dX11_gone_104 rfl (Nat.le_refl 0) (Nat.le_refl 0) rfl
  · refine at_aload_n (j := 1) hC rfl rfl dX11_gone_82 ?_
    refine at_iload_n (j := 3) hC rfl rfl dX11_gone_83 ?_
    refine at_if_eq (tgt := 91) hC dX11_gone_84 rfl (fun _ => ?_) (fun _ => ?_)
    · refine at_iconst hC ic_4 dX11_gone_91 ?_
      refine at_drop (lv' := [(1, .int a1), (3, .int a3)]) [2, 4] rfl ?_
      exact t_M_gone_J92 hC hR σ a1 a3 4
    · refine at_iconst hC ic_5 dX11_gone_87 ?_
      refine at_goto (tgt := 92) hC dX11_gone_88 rfl ?_
      refine at_drop (lv' := [(1, .int a1), (3, .int a3)]) [2, 4] rfl ?_
      exact t_M_gone_J92 hC hR σ a1 a3 5
set_option maxRecDepth 100000 in
theorem t_M_gone_J65 (hC : CX z ad x cX11_gone RX11 5 (some .int)) (hR : x.2.2.1 = rmk 4 0 0) (σ : MS) (a1 : Int32) (a2 : Int32) (a3 : Int32) : AT z x 5 (wM z τ) rI (eqA ad) 0 0 0 0 ad 65 [(0, .ref 0), (1, .int a1), (2, .int a2), (3, .int a3)] [] σ (M_gone_J65 σ a1 a2 a3) := by
  unfold M_gone_J65
  refine at_iconst hC ic_0 dX11_gone_65 ?_
  refine at_goto (tgt := 75) hC dX11_gone_66 rfl ?_
  exact t_M_gone_J75 hC hR σ a1 a2 a3 0
set_option maxRecDepth 100000 in
theorem c_M_gone (σ : MS) (p0 : Int32) (p1 : Int32) (p2 : Int32) : Ct z (wM z τ) rI eqA yX11_gone cX11_gone 5 (some .int) 4 0 0 [.ref 0, .int p0, .int p1, .int p2] σ (M_gone σ p0 p1 p2) := by
  refine Ct.of (by decide) (Nat.le_of_ble_eq_true rfl) (fun ad x hC hR _ => ?_)
  show AT z x 5 (wM z τ) rI (eqA ad) 0 0 0 0 ad 0 [(0, .ref 0), (1, .int p0), (2, .int p1), (3, .int p2)] [] σ (M_gone σ p0 p1 p2)
  unfold M_gone
  refine at_aload_n (j := 0) hC rfl rfl dX11_gone_0 ?_
  refine at_iload_n (j := 1) hC rfl rfl dX11_gone_1 ?_
  refine at_callVpI hC hR lk_X11_133 (c_M_isPerson σ p0) dX11_gone_2 recX11 rfl rfl ⟨by decide, by decide⟩ (Nat.le_of_ble_eq_true rfl) ⟨Nat.le_refl 0, Nat.le_refl 0⟩ (fun r1 _ => ?_)
  refine at_if_ne (tgt := 10) hC dX11_gone_5 rfl (fun _ => ?_) (fun _ => ?_)
  · refine at_aload_n (j := 0) hC rfl rfl dX11_gone_10 ?_
    refine gf_X11_11 hC dX11_gone_11 ?_
    refine at_iload_n (j := 1) hC rfl rfl dX11_gone_14 ?_
    refine at_iald hC 1 dX11_gone_15 cl_1 (fun v2 => ?_)
    refine at_if_ne (tgt := 26) hC dX11_gone_16 rfl (fun _ => ?_) (fun _ => ?_)
    · refine at_bipush hC bi_m2 dX11_gone_26 ?_
      exact at_iret (F := eqA ad) (ra := rI) hC dX11_gone_28 rfl (Nat.le_refl 0) (Nat.le_refl 0) rfl
    · refine at_iload_n (j := 3) hC rfl rfl dX11_gone_19 ?_
      refine at_callSpI hC hR lk_X11_177 (c_M_isDay σ p2) dX11_gone_20 rfl rfl ⟨by decide, by decide⟩ (Nat.le_of_ble_eq_true rfl) ⟨Nat.le_refl 0, Nat.le_refl 0⟩ (fun r3 _ => ?_)
      refine at_if_ne (tgt := 29) hC dX11_gone_23 rfl (fun _ => ?_) (fun _ => ?_)
      · refine at_aload_n (j := 0) hC rfl rfl dX11_gone_29 ?_
        refine at_iconst hC ic_m1 dX11_gone_30 ?_
        refine at_callVU hC hR lk_X11_143 (c_M_looks σ (-1)) dX11_gone_31 recX11 rfl rfl ⟨by decide, by decide⟩ (Nat.le_of_ble_eq_true rfl) ⟨Nat.le_refl 0, Nat.le_refl 0⟩ (fun r4 r4s _ => ?_)
        refine at_iload_n (j := 2) hC rfl rfl dX11_gone_34 ?_
        refine at_if_eq (tgt := 69) hC dX11_gone_35 rfl (fun _ => ?_) (fun _ => ?_)
        · refine at_aload_n (j := 0) hC rfl rfl dX11_gone_69 ?_
          refine at_iload_n (j := 1) hC rfl rfl dX11_gone_70 ?_
          refine at_iload_n (j := 3) hC rfl rfl dX11_gone_71 ?_
          refine at_callVpI hC hR lk_X11_162 (c_M_isMember r4s p0 p2) dX11_gone_72 recX11 rfl rfl ⟨by decide, by decide⟩ (Nat.le_of_ble_eq_true rfl) ⟨Nat.le_refl 0, Nat.le_refl 0⟩ (fun r5 _ => ?_)
          exact t_M_gone_J75 hC hR r4s p0 p1 p2 r5
        · refine at_aload_n (j := 0) hC rfl rfl dX11_gone_38 ?_
          refine at_iload_n (j := 1) hC rfl rfl dX11_gone_39 ?_
          refine at_iload_n (j := 3) hC rfl rfl dX11_gone_40 ?_
          refine at_callVpI hC hR lk_X11_187 (c_M_isGone r4s p0 p2) dX11_gone_41 recX11 rfl rfl ⟨by decide, by decide⟩ (Nat.le_of_ble_eq_true rfl) ⟨Nat.le_refl 0, Nat.le_refl 0⟩ (fun r7 _ => ?_)
          refine at_if_eq (tgt := 65) hC dX11_gone_44 rfl (fun _ => ?_) (fun _ => ?_)
          · exact t_M_gone_J65 hC hR r4s p0 p1 p2
          · refine at_aload_n (j := 0) hC rfl rfl dX11_gone_47 ?_
            refine at_aload_n (j := 0) hC rfl rfl dX11_gone_48 ?_
            refine at_iload_n (j := 1) hC rfl rfl dX11_gone_49 ?_
            refine at_iload_n (j := 3) hC rfl rfl dX11_gone_50 ?_
            refine at_callVpI hC hR lk_X11_165 (c_M_seatOf r4s p0 p2) dX11_gone_51 recX11 rfl rfl ⟨by decide, by decide⟩ (Nat.le_of_ble_eq_true rfl) ⟨Nat.le_refl 0, Nat.le_refl 0⟩ (fun r8 _ => ?_)
            refine at_iload_n (j := 3) hC rfl rfl dX11_gone_54 ?_
            refine at_callVpI hC hR lk_X11_190 (c_M_isSeated r4s r8 p2) dX11_gone_55 recX11 rfl rfl ⟨by decide, by decide⟩ (Nat.le_of_ble_eq_true rfl) ⟨Nat.le_refl 0, Nat.le_refl 0⟩ (fun r9 _ => ?_)
            refine at_if_ne (tgt := 65) hC dX11_gone_58 rfl (fun _ => ?_) (fun _ => ?_)
            · exact t_M_gone_J65 hC hR r4s p0 p1 p2
            · refine at_iconst hC ic_1 dX11_gone_61 ?_
              refine at_goto (tgt := 75) hC dX11_gone_62 rfl ?_
              exact t_M_gone_J75 hC hR r4s p0 p1 p2 1
      · refine at_bipush hC bi_m2 dX11_gone_26 ?_
        exact at_iret (F := eqA ad) (ra := rI) hC dX11_gone_28 rfl (Nat.le_refl 0) (Nat.le_refl 0) rfl
  · refine at_iconst hC ic_m1 dX11_gone_8 ?_
    exact at_iret (F := eqA ad) (ra := rI) hC dX11_gone_9 rfl (Nat.le_refl 0) (Nat.le_refl 0) rfl
theorem dX11_pay_0 : decode cX11_pay 0 = .ok (.aload_n 0, 1) := by decide +kernel
theorem dX11_pay_1 : decode cX11_pay 1 = .ok (.iload_n 1, 1) := by decide +kernel
theorem dX11_pay_2 : decode cX11_pay 2 = .ok (.invokevirtual 133, 3) := by decide +kernel
theorem dX11_pay_5 : decode cX11_pay 5 = .ok (.ifCond .ne 5, 3) := by decide +kernel
theorem dX11_pay_8 : decode cX11_pay 8 = .ok (.iconst (-1), 1) := by decide +kernel
theorem dX11_pay_9 : decode cX11_pay 9 = .ok (.ireturn, 1) := by decide +kernel
theorem dX11_pay_10 : decode cX11_pay 10 = .ok (.aload_n 0, 1) := by decide +kernel
theorem dX11_pay_11 : decode cX11_pay 11 = .ok (.getfield 11, 3) := by decide +kernel
theorem dX11_pay_14 : decode cX11_pay 14 = .ok (.iload_n 1, 1) := by decide +kernel
theorem dX11_pay_15 : decode cX11_pay 15 = .ok (.iaload, 1) := by decide +kernel
theorem dX11_pay_16 : decode cX11_pay 16 = .ok (.ifCond .ne 21, 3) := by decide +kernel
theorem dX11_pay_19 : decode cX11_pay 19 = .ok (.iload_n 2, 1) := by decide +kernel
theorem dX11_pay_20 : decode cX11_pay 20 = .ok (.iconst 1, 1) := by decide +kernel
theorem dX11_pay_21 : decode cX11_pay 21 = .ok (.sipush 9999, 3) := by decide +kernel
theorem dX11_pay_24 : decode cX11_pay 24 = .ok (.invokestatic 129, 3) := by decide +kernel
theorem dX11_pay_27 : decode cX11_pay 27 = .ok (.ifCond .eq 10, 3) := by decide +kernel
theorem dX11_pay_30 : decode cX11_pay 30 = .ok (.iload_n 3, 1) := by decide +kernel
theorem dX11_pay_31 : decode cX11_pay 31 = .ok (.invokestatic 177, 3) := by decide +kernel
theorem dX11_pay_34 : decode cX11_pay 34 = .ok (.ifCond .ne 6, 3) := by decide +kernel
theorem dX11_pay_37 : decode cX11_pay 37 = .ok (.bipush (-2), 2) := by decide +kernel
theorem dX11_pay_39 : decode cX11_pay 39 = .ok (.ireturn, 1) := by decide +kernel
theorem dX11_pay_40 : decode cX11_pay 40 = .ok (.aload_n 0, 1) := by decide +kernel
theorem dX11_pay_41 : decode cX11_pay 41 = .ok (.iconst (-1), 1) := by decide +kernel
theorem dX11_pay_42 : decode cX11_pay 42 = .ok (.invokevirtual 143, 3) := by decide +kernel
theorem dX11_pay_45 : decode cX11_pay 45 = .ok (.aload_n 0, 1) := by decide +kernel
theorem dX11_pay_46 : decode cX11_pay 46 = .ok (.iload_n 1, 1) := by decide +kernel
theorem dX11_pay_47 : decode cX11_pay 47 = .ok (.iload_n 3, 1) := by decide +kernel
theorem dX11_pay_48 : decode cX11_pay 48 = .ok (.invokevirtual 162, 3) := by decide +kernel
theorem dX11_pay_51 : decode cX11_pay 51 = .ok (.ifCond .eq 16, 3) := by decide +kernel
theorem dX11_pay_54 : decode cX11_pay 54 = .ok (.aload_n 0, 1) := by decide +kernel
theorem dX11_pay_55 : decode cX11_pay 55 = .ok (.bipush 6, 2) := by decide +kernel
theorem dX11_pay_57 : decode cX11_pay 57 = .ok (.iload_n 1, 1) := by decide +kernel
theorem dX11_pay_58 : decode cX11_pay 58 = .ok (.iload_n 2, 1) := by decide +kernel
theorem dX11_pay_59 : decode cX11_pay 59 = .ok (.iload_n 3, 1) := by decide +kernel
theorem dX11_pay_60 : decode cX11_pay 60 = .ok (.iconst (-1), 1) := by decide +kernel
theorem dX11_pay_61 : decode cX11_pay 61 = .ok (.invokevirtual 183, 3) := by decide +kernel
theorem dX11_pay_64 : decode cX11_pay 64 = .ok (.goto 5, 3) := by decide +kernel
theorem dX11_pay_67 : decode cX11_pay 67 = .ok (.bipush (-3), 2) := by decide +kernel
theorem dX11_pay_69 : decode cX11_pay 69 = .ok (.ireturn, 1) := by decide +kernel
set_option maxRecDepth 100000 in
theorem c_M_pay (σ : MS) (p0 : Int32) (p1 : Int32) (p2 : Int32) : Ct z (wM z τ) rI eqA yX11_pay cX11_pay 4 (some .int) 3 0 0 [.ref 0, .int p0, .int p1, .int p2] σ (M_pay σ p0 p1 p2) := by
  refine Ct.of (by decide) (Nat.le_of_ble_eq_true rfl) (fun ad x hC hR _ => ?_)
  show AT z x 4 (wM z τ) rI (eqA ad) 0 0 0 0 ad 0 [(0, .ref 0), (1, .int p0), (2, .int p1), (3, .int p2)] [] σ (M_pay σ p0 p1 p2)
  unfold M_pay
  refine at_aload_n (j := 0) hC rfl rfl dX11_pay_0 ?_
  refine at_iload_n (j := 1) hC rfl rfl dX11_pay_1 ?_
  refine at_callVpI hC hR lk_X11_133 (c_M_isPerson σ p0) dX11_pay_2 recX11 rfl rfl ⟨by decide, by decide⟩ (Nat.le_of_ble_eq_true rfl) ⟨Nat.le_refl 0, Nat.le_refl 0⟩ (fun r1 _ => ?_)
  refine at_if_ne (tgt := 10) hC dX11_pay_5 rfl (fun _ => ?_) (fun _ => ?_)
  · refine at_aload_n (j := 0) hC rfl rfl dX11_pay_10 ?_
    refine gf_X11_11 hC dX11_pay_11 ?_
    refine at_iload_n (j := 1) hC rfl rfl dX11_pay_14 ?_
    refine at_iald hC 1 dX11_pay_15 cl_1 (fun v2 => ?_)
    refine at_if_ne (tgt := 37) hC dX11_pay_16 rfl (fun _ => ?_) (fun _ => ?_)
    · refine at_bipush hC bi_m2 dX11_pay_37 ?_
      exact at_iret (F := eqA ad) (ra := rI) hC dX11_pay_39 rfl (Nat.le_refl 0) (Nat.le_refl 0) rfl
    · refine at_iload_n (j := 2) hC rfl rfl dX11_pay_19 ?_
      refine at_iconst hC ic_1 dX11_pay_20 ?_
      refine at_sipush hC si_9999 dX11_pay_21 ?_
      refine at_callSpI hC hR lk_X11_129 (c_M_in σ p1 1 9999) dX11_pay_24 rfl rfl ⟨by decide, by decide⟩ (Nat.le_of_ble_eq_true rfl) ⟨Nat.le_refl 0, Nat.le_refl 0⟩ (fun r3 _ => ?_)
      refine at_if_eq (tgt := 37) hC dX11_pay_27 rfl (fun _ => ?_) (fun _ => ?_)
      · refine at_bipush hC bi_m2 dX11_pay_37 ?_
        exact at_iret (F := eqA ad) (ra := rI) hC dX11_pay_39 rfl (Nat.le_refl 0) (Nat.le_refl 0) rfl
      · refine at_iload_n (j := 3) hC rfl rfl dX11_pay_30 ?_
        refine at_callSpI hC hR lk_X11_177 (c_M_isDay σ p2) dX11_pay_31 rfl rfl ⟨by decide, by decide⟩ (Nat.le_of_ble_eq_true rfl) ⟨Nat.le_refl 0, Nat.le_refl 0⟩ (fun r4 _ => ?_)
        refine at_if_ne (tgt := 40) hC dX11_pay_34 rfl (fun _ => ?_) (fun _ => ?_)
        · refine at_aload_n (j := 0) hC rfl rfl dX11_pay_40 ?_
          refine at_iconst hC ic_m1 dX11_pay_41 ?_
          refine at_callVU hC hR lk_X11_143 (c_M_looks σ (-1)) dX11_pay_42 recX11 rfl rfl ⟨by decide, by decide⟩ (Nat.le_of_ble_eq_true rfl) ⟨Nat.le_refl 0, Nat.le_refl 0⟩ (fun r5 r5s _ => ?_)
          refine at_aload_n (j := 0) hC rfl rfl dX11_pay_45 ?_
          refine at_iload_n (j := 1) hC rfl rfl dX11_pay_46 ?_
          refine at_iload_n (j := 3) hC rfl rfl dX11_pay_47 ?_
          refine at_callVpI hC hR lk_X11_162 (c_M_isMember r5s p0 p2) dX11_pay_48 recX11 rfl rfl ⟨by decide, by decide⟩ (Nat.le_of_ble_eq_true rfl) ⟨Nat.le_refl 0, Nat.le_refl 0⟩ (fun r6 _ => ?_)
          refine at_if_eq (tgt := 67) hC dX11_pay_51 rfl (fun _ => ?_) (fun _ => ?_)
          · refine at_bipush hC bi_m3 dX11_pay_67 ?_
            exact at_iret (F := eqA ad) (ra := rI) hC dX11_pay_69 rfl (Nat.le_refl 0) (Nat.le_refl 0) rfl
          · refine at_aload_n (j := 0) hC rfl rfl dX11_pay_54 ?_
            refine at_bipush hC bi_6 dX11_pay_55 ?_
            refine at_iload_n (j := 1) hC rfl rfl dX11_pay_57 ?_
            refine at_iload_n (j := 2) hC rfl rfl dX11_pay_58 ?_
            refine at_iload_n (j := 3) hC rfl rfl dX11_pay_59 ?_
            refine at_iconst hC ic_m1 dX11_pay_60 ?_
            refine at_callVI hC hR lk_X11_183 (c_M_tells r5s 6 p0 p1 p2 (-1)) dX11_pay_61 recX11 rfl rfl ⟨by decide, by decide⟩ (Nat.le_of_ble_eq_true rfl) ⟨Nat.le_refl 0, Nat.le_refl 0⟩ (fun r7 r7s _ => ?_)
            refine at_goto (tgt := 69) hC dX11_pay_64 rfl ?_
            exact at_iret (F := eqA ad) (ra := rI) hC dX11_pay_69 rfl (Nat.le_refl 0) (Nat.le_refl 0) rfl
        · refine at_bipush hC bi_m2 dX11_pay_37 ?_
          exact at_iret (F := eqA ad) (ra := rI) hC dX11_pay_39 rfl (Nat.le_refl 0) (Nat.le_refl 0) rfl
  · refine at_iconst hC ic_m1 dX11_pay_8 ?_
    exact at_iret (F := eqA ad) (ra := rI) hC dX11_pay_9 rfl (Nat.le_refl 0) (Nat.le_refl 0) rfl
theorem dX11_strike_0 : decode cX11_strike 0 = .ok (.iload_n 1, 1) := by decide +kernel
theorem dX11_strike_1 : decode cX11_strike 1 = .ok (.iconst 0, 1) := by decide +kernel
theorem dX11_strike_2 : decode cX11_strike 2 = .ok (.aload_n 0, 1) := by decide +kernel
theorem dX11_strike_3 : decode cX11_strike 3 = .ok (.getfield 137, 3) := by decide +kernel
theorem dX11_strike_6 : decode cX11_strike 6 = .ok (.iconst 1, 1) := by decide +kernel
theorem dX11_strike_7 : decode cX11_strike 7 = .ok (.isub, 1) := by decide +kernel
theorem dX11_strike_8 : decode cX11_strike 8 = .ok (.invokestatic 129, 3) := by decide +kernel
theorem dX11_strike_11 : decode cX11_strike 11 = .ok (.ifCond .ne 5, 3) := by decide +kernel
theorem dX11_strike_14 : decode cX11_strike 14 = .ok (.iconst (-1), 1) := by decide +kernel
theorem dX11_strike_15 : decode cX11_strike 15 = .ok (.ireturn, 1) := by decide +kernel
theorem dX11_strike_16 : decode cX11_strike 16 = .ok (.aload_n 0, 1) := by decide +kernel
theorem dX11_strike_17 : decode cX11_strike 17 = .ok (.iconst (-1), 1) := by decide +kernel
theorem dX11_strike_18 : decode cX11_strike 18 = .ok (.invokevirtual 143, 3) := by decide +kernel
theorem dX11_strike_21 : decode cX11_strike 21 = .ok (.aload_n 0, 1) := by decide +kernel
theorem dX11_strike_22 : decode cX11_strike 22 = .ok (.getfield 111, 3) := by decide +kernel
theorem dX11_strike_25 : decode cX11_strike 25 = .ok (.iload_n 1, 1) := by decide +kernel
theorem dX11_strike_26 : decode cX11_strike 26 = .ok (.baload, 1) := by decide +kernel
theorem dX11_strike_27 : decode cX11_strike 27 = .ok (.ifCond .eq 16, 3) := by decide +kernel
theorem dX11_strike_30 : decode cX11_strike 30 = .ok (.aload_n 0, 1) := by decide +kernel
theorem dX11_strike_31 : decode cX11_strike 31 = .ok (.bipush 7, 2) := by decide +kernel
theorem dX11_strike_33 : decode cX11_strike 33 = .ok (.iload_n 1, 1) := by decide +kernel
theorem dX11_strike_34 : decode cX11_strike 34 = .ok (.iconst (-1), 1) := by decide +kernel
theorem dX11_strike_35 : decode cX11_strike 35 = .ok (.iconst (-1), 1) := by decide +kernel
theorem dX11_strike_36 : decode cX11_strike 36 = .ok (.iconst (-1), 1) := by decide +kernel
theorem dX11_strike_37 : decode cX11_strike 37 = .ok (.invokevirtual 183, 3) := by decide +kernel
theorem dX11_strike_40 : decode cX11_strike 40 = .ok (.goto 5, 3) := by decide +kernel
theorem dX11_strike_43 : decode cX11_strike 43 = .ok (.bipush (-3), 2) := by decide +kernel
theorem dX11_strike_45 : decode cX11_strike 45 = .ok (.ireturn, 1) := by decide +kernel
set_option maxRecDepth 100000 in
theorem c_M_strike (σ : MS) (p0 : Int32) : Ct z (wM z τ) rI eqA yX11_strike cX11_strike 2 (some .int) 2 0 0 [.ref 0, .int p0] σ (M_strike σ p0) := by
  refine Ct.of (by decide) (Nat.le_of_ble_eq_true rfl) (fun ad x hC hR _ => ?_)
  show AT z x 2 (wM z τ) rI (eqA ad) 0 0 0 0 ad 0 [(0, .ref 0), (1, .int p0)] [] σ (M_strike σ p0)
  unfold M_strike
  refine at_iload_n (j := 1) hC rfl rfl dX11_strike_0 ?_
  refine at_iconst hC ic_0 dX11_strike_1 ?_
  refine at_aload_n (j := 0) hC rfl rfl dX11_strike_2 ?_
  refine gf_X11_137 hC dX11_strike_3 ?_
  refine at_iconst hC ic_1 dX11_strike_6 ?_
  refine at_isub hC dX11_strike_7 ?_
  refine at_callSpI hC hR lk_X11_129 (c_M_in σ p0 0 ((σ.1 7) - 1)) dX11_strike_8 rfl rfl ⟨by decide, by decide⟩ (Nat.le_of_ble_eq_true rfl) ⟨Nat.le_refl 0, Nat.le_refl 0⟩ (fun r1 _ => ?_)
  refine at_if_ne (tgt := 16) hC dX11_strike_11 rfl (fun _ => ?_) (fun _ => ?_)
  · refine at_aload_n (j := 0) hC rfl rfl dX11_strike_16 ?_
    refine at_iconst hC ic_m1 dX11_strike_17 ?_
    refine at_callVU hC hR lk_X11_143 (c_M_looks σ (-1)) dX11_strike_18 recX11 rfl rfl ⟨by decide, by decide⟩ (Nat.le_of_ble_eq_true rfl) ⟨Nat.le_refl 0, Nat.le_refl 0⟩ (fun r2 r2s _ => ?_)
    refine at_aload_n (j := 0) hC rfl rfl dX11_strike_21 ?_
    refine gf_X11_111 hC dX11_strike_22 ?_
    refine at_iload_n (j := 1) hC rfl rfl dX11_strike_25 ?_
    refine at_zald hC 32 dX11_strike_26 cl_32 (fun v3 => ?_)
    refine at_if_eq (tgt := 43) hC dX11_strike_27 rfl (fun _ => ?_) (fun _ => ?_)
    · refine at_bipush hC bi_m3 dX11_strike_43 ?_
      exact at_iret (F := eqA ad) (ra := rI) hC dX11_strike_45 rfl (Nat.le_refl 0) (Nat.le_refl 0) rfl
    · refine at_aload_n (j := 0) hC rfl rfl dX11_strike_30 ?_
      refine at_bipush hC bi_7 dX11_strike_31 ?_
      refine at_iload_n (j := 1) hC rfl rfl dX11_strike_33 ?_
      refine at_iconst hC ic_m1 dX11_strike_34 ?_
      refine at_iconst hC ic_m1 dX11_strike_35 ?_
      refine at_iconst hC ic_m1 dX11_strike_36 ?_
      refine at_callVI hC hR lk_X11_183 (c_M_tells r2s 7 p0 (-1) (-1) (-1)) dX11_strike_37 recX11 rfl rfl ⟨by decide, by decide⟩ (Nat.le_of_ble_eq_true rfl) ⟨Nat.le_refl 0, Nat.le_refl 0⟩ (fun r4 r4s _ => ?_)
      refine at_goto (tgt := 45) hC dX11_strike_40 rfl ?_
      exact at_iret (F := eqA ad) (ra := rI) hC dX11_strike_45 rfl (Nat.le_refl 0) (Nat.le_refl 0) rfl
  · refine at_iconst hC ic_m1 dX11_strike_14 ?_
    exact at_iret (F := eqA ad) (ra := rI) hC dX11_strike_15 rfl (Nat.le_refl 0) (Nat.le_refl 0) rfl
theorem dX11_known_0 : decode cX11_known 0 = .ok (.iload_n 1, 1) := by decide +kernel
theorem dX11_known_1 : decode cX11_known 1 = .ok (.iconst 0, 1) := by decide +kernel
theorem dX11_known_2 : decode cX11_known 2 = .ok (.aload_n 0, 1) := by decide +kernel
theorem dX11_known_3 : decode cX11_known 3 = .ok (.getfield 137, 3) := by decide +kernel
theorem dX11_known_6 : decode cX11_known 6 = .ok (.iconst 1, 1) := by decide +kernel
theorem dX11_known_7 : decode cX11_known 7 = .ok (.isub, 1) := by decide +kernel
theorem dX11_known_8 : decode cX11_known 8 = .ok (.invokestatic 129, 3) := by decide +kernel
theorem dX11_known_11 : decode cX11_known 11 = .ok (.ifCond .ne 5, 3) := by decide +kernel
theorem dX11_known_14 : decode cX11_known 14 = .ok (.iconst (-1), 1) := by decide +kernel
theorem dX11_known_15 : decode cX11_known 15 = .ok (.ireturn, 1) := by decide +kernel
theorem dX11_known_16 : decode cX11_known 16 = .ok (.iload_n 2, 1) := by decide +kernel
theorem dX11_known_17 : decode cX11_known 17 = .ok (.tableswitch 70 0 4 #[35, 42, 49, 56, 63], 35) := by decide +kernel
theorem dX11_known_52 : decode cX11_known 52 = .ok (.aload_n 0, 1) := by decide +kernel
theorem dX11_known_53 : decode cX11_known 53 = .ok (.getfield 24, 3) := by decide +kernel
theorem dX11_known_56 : decode cX11_known 56 = .ok (.iload_n 1, 1) := by decide +kernel
theorem dX11_known_57 : decode cX11_known 57 = .ok (.iaload, 1) := by decide +kernel
theorem dX11_known_58 : decode cX11_known 58 = .ok (.ireturn, 1) := by decide +kernel
theorem dX11_known_59 : decode cX11_known 59 = .ok (.aload_n 0, 1) := by decide +kernel
theorem dX11_known_60 : decode cX11_known 60 = .ok (.getfield 27, 3) := by decide +kernel
theorem dX11_known_63 : decode cX11_known 63 = .ok (.iload_n 1, 1) := by decide +kernel
theorem dX11_known_64 : decode cX11_known 64 = .ok (.iaload, 1) := by decide +kernel
theorem dX11_known_65 : decode cX11_known 65 = .ok (.ireturn, 1) := by decide +kernel
theorem dX11_known_66 : decode cX11_known 66 = .ok (.aload_n 0, 1) := by decide +kernel
theorem dX11_known_67 : decode cX11_known 67 = .ok (.getfield 30, 3) := by decide +kernel
theorem dX11_known_70 : decode cX11_known 70 = .ok (.iload_n 1, 1) := by decide +kernel
theorem dX11_known_71 : decode cX11_known 71 = .ok (.iaload, 1) := by decide +kernel
theorem dX11_known_72 : decode cX11_known 72 = .ok (.ireturn, 1) := by decide +kernel
theorem dX11_known_73 : decode cX11_known 73 = .ok (.aload_n 0, 1) := by decide +kernel
theorem dX11_known_74 : decode cX11_known 74 = .ok (.getfield 33, 3) := by decide +kernel
theorem dX11_known_77 : decode cX11_known 77 = .ok (.iload_n 1, 1) := by decide +kernel
theorem dX11_known_78 : decode cX11_known 78 = .ok (.iaload, 1) := by decide +kernel
theorem dX11_known_79 : decode cX11_known 79 = .ok (.ireturn, 1) := by decide +kernel
theorem dX11_known_80 : decode cX11_known 80 = .ok (.aload_n 0, 1) := by decide +kernel
theorem dX11_known_81 : decode cX11_known 81 = .ok (.getfield 36, 3) := by decide +kernel
theorem dX11_known_84 : decode cX11_known 84 = .ok (.iload_n 1, 1) := by decide +kernel
theorem dX11_known_85 : decode cX11_known 85 = .ok (.iaload, 1) := by decide +kernel
theorem dX11_known_86 : decode cX11_known 86 = .ok (.ireturn, 1) := by decide +kernel
theorem dX11_known_87 : decode cX11_known 87 = .ok (.iconst (-1), 1) := by decide +kernel
theorem dX11_known_88 : decode cX11_known 88 = .ok (.ireturn, 1) := by decide +kernel
set_option maxRecDepth 100000 in
theorem c_M_known (σ : MS) (p0 : Int32) (p1 : Int32) : Ct z (wM z τ) rI eqA yX11_known cX11_known 3 (some .int) 2 0 0 [.ref 0, .int p0, .int p1] σ ((M_known σ p0 p1).map fun r => (r, σ)) := by
  refine Ct.of (by decide) (Nat.le_of_ble_eq_true rfl) (fun ad x hC hR _ => ?_)
  show AT z x 3 (wM z τ) rI (eqA ad) 0 0 0 0 ad 0 [(0, .ref 0), (1, .int p0), (2, .int p1)] [] σ ((M_known σ p0 p1).map fun r => (r, σ))
  unfold M_known
  refine at_iload_n (j := 1) hC rfl rfl dX11_known_0 ?_
  refine at_iconst hC ic_0 dX11_known_1 ?_
  refine at_aload_n (j := 0) hC rfl rfl dX11_known_2 ?_
  refine gf_X11_137 hC dX11_known_3 ?_
  refine at_iconst hC ic_1 dX11_known_6 ?_
  refine at_isub hC dX11_known_7 ?_
  refine ap_callSI hC hR lk_X11_129 (c_M_in σ p0 0 ((σ.1 7) - 1)) dX11_known_8 rfl rfl ⟨by decide, by decide⟩ (Nat.le_of_ble_eq_true rfl) ⟨Nat.le_refl 0, Nat.le_refl 0⟩ (fun r1 _ => ?_)
  refine ap_if_ne (tgt := 16) hC dX11_known_11 rfl (fun _ => ?_) (fun _ => ?_)
  · refine at_iload_n (j := 2) hC rfl rfl dX11_known_16 ?_
    refine ap_sw (off := 35) (tgt := 52) (v := 0) hC 0 dX11_known_17 rfl rfl (by decide) (by decide) swp0 ?_ (fun hp0 => ?_)
    · refine at_aload_n (j := 0) hC rfl rfl dX11_known_52 ?_
      refine gf_X11_24 hC dX11_known_53 ?_
      refine at_iload_n (j := 1) hC rfl rfl dX11_known_56 ?_
      refine ap_iald hC 5 dX11_known_57 cl_5 (fun v2 => ?_)
      exact at_iret (F := eqA ad) (ra := rI) hC dX11_known_58 rfl (Nat.le_refl 0) (Nat.le_refl 0) rfl
    refine ap_sw (off := 42) (tgt := 59) (v := 1) hC 1 dX11_known_17 rfl rfl (by decide) (by decide) hp0 ?_ (fun hp1 => ?_)
    · refine at_aload_n (j := 0) hC rfl rfl dX11_known_59 ?_
      refine gf_X11_27 hC dX11_known_60 ?_
      refine at_iload_n (j := 1) hC rfl rfl dX11_known_63 ?_
      refine ap_iald hC 6 dX11_known_64 cl_6 (fun v3 => ?_)
      exact at_iret (F := eqA ad) (ra := rI) hC dX11_known_65 rfl (Nat.le_refl 0) (Nat.le_refl 0) rfl
    refine ap_sw (off := 49) (tgt := 66) (v := 2) hC 2 dX11_known_17 rfl rfl (by decide) (by decide) hp1 ?_ (fun hp2 => ?_)
    · refine at_aload_n (j := 0) hC rfl rfl dX11_known_66 ?_
      refine gf_X11_30 hC dX11_known_67 ?_
      refine at_iload_n (j := 1) hC rfl rfl dX11_known_70 ?_
      refine ap_iald hC 7 dX11_known_71 cl_7 (fun v4 => ?_)
      exact at_iret (F := eqA ad) (ra := rI) hC dX11_known_72 rfl (Nat.le_refl 0) (Nat.le_refl 0) rfl
    refine ap_sw (off := 56) (tgt := 73) (v := 3) hC 3 dX11_known_17 rfl rfl (by decide) (by decide) hp2 ?_ (fun hp3 => ?_)
    · refine at_aload_n (j := 0) hC rfl rfl dX11_known_73 ?_
      refine gf_X11_33 hC dX11_known_74 ?_
      refine at_iload_n (j := 1) hC rfl rfl dX11_known_77 ?_
      refine ap_iald hC 8 dX11_known_78 cl_8 (fun v5 => ?_)
      exact at_iret (F := eqA ad) (ra := rI) hC dX11_known_79 rfl (Nat.le_refl 0) (Nat.le_refl 0) rfl
    refine ap_sw (off := 63) (tgt := 80) (v := 4) hC 4 dX11_known_17 rfl rfl (by decide) (by decide) hp3 ?_ (fun hp4 => ?_)
    · refine at_aload_n (j := 0) hC rfl rfl dX11_known_80 ?_
      refine gf_X11_36 hC dX11_known_81 ?_
      refine at_iload_n (j := 1) hC rfl rfl dX11_known_84 ?_
      refine ap_iald hC 9 dX11_known_85 cl_9 (fun v6 => ?_)
      exact at_iret (F := eqA ad) (ra := rI) hC dX11_known_86 rfl (Nat.le_refl 0) (Nat.le_refl 0) rfl
    refine at_swd (tgt := 87) hC 5 dX11_known_17 rfl (by decide) hp4 ?_
    refine at_iconst hC ic_m1 dX11_known_87 ?_
    exact at_iret (F := eqA ad) (ra := rI) hC dX11_known_88 rfl (Nat.le_refl 0) (Nat.le_refl 0) rfl
  · refine at_iconst hC ic_m1 dX11_known_14 ?_
    exact at_iret (F := eqA ad) (ra := rI) hC dX11_known_15 rfl (Nat.le_refl 0) (Nat.le_refl 0) rfl
theorem dX11_namesOf_0 : decode cX11_namesOf 0 = .ok (.iload_n 1, 1) := by decide +kernel
theorem dX11_namesOf_1 : decode cX11_namesOf 1 = .ok (.iconst (-1), 1) := by decide +kernel
theorem dX11_namesOf_2 : decode cX11_namesOf 2 = .ok (.if_icmp .ne 7, 3) := by decide +kernel
theorem dX11_namesOf_5 : decode cX11_namesOf 5 = .ok (.iconst (-1), 1) := by decide +kernel
theorem dX11_namesOf_6 : decode cX11_namesOf 6 = .ok (.goto 9, 3) := by decide +kernel
theorem dX11_namesOf_9 : decode cX11_namesOf 9 = .ok (.aload_n 0, 1) := by decide +kernel
theorem dX11_namesOf_10 : decode cX11_namesOf 10 = .ok (.iload_n 1, 1) := by decide +kernel
theorem dX11_namesOf_11 : decode cX11_namesOf 11 = .ok (.iload_n 2, 1) := by decide +kernel
theorem dX11_namesOf_12 : decode cX11_namesOf 12 = .ok (.invokevirtual 200, 3) := by decide +kernel
theorem dX11_namesOf_15 : decode cX11_namesOf 15 = .ok (.istore_n 3, 1) := by decide +kernel
theorem dX11_namesOf_16 : decode cX11_namesOf 16 = .ok (.aload_n 0, 1) := by decide +kernel
theorem dX11_namesOf_17 : decode cX11_namesOf 17 = .ok (.getfield 117, 3) := by decide +kernel
theorem dX11_namesOf_20 : decode cX11_namesOf 20 = .ok (.iconst 0, 1) := by decide +kernel
theorem dX11_namesOf_21 : decode cX11_namesOf 21 = .ok (.iload_n 1, 1) := by decide +kernel
theorem dX11_namesOf_22 : decode cX11_namesOf 22 = .ok (.iconst (-1), 1) := by decide +kernel
theorem dX11_namesOf_23 : decode cX11_namesOf 23 = .ok (.if_icmp .eq 13, 3) := by decide +kernel
theorem dX11_namesOf_26 : decode cX11_namesOf 26 = .ok (.aload_n 0, 1) := by decide +kernel
theorem dX11_namesOf_27 : decode cX11_namesOf 27 = .ok (.iload_n 1, 1) := by decide +kernel
theorem dX11_namesOf_28 : decode cX11_namesOf 28 = .ok (.iload_n 2, 1) := by decide +kernel
theorem dX11_namesOf_29 : decode cX11_namesOf 29 = .ok (.invokevirtual 218, 3) := by decide +kernel
theorem dX11_namesOf_32 : decode cX11_namesOf 32 = .ok (.iconst (-1), 1) := by decide +kernel
theorem dX11_namesOf_33 : decode cX11_namesOf 33 = .ok (.if_icmp .ne 7, 3) := by decide +kernel
theorem dX11_namesOf_36 : decode cX11_namesOf 36 = .ok (.iconst 0, 1) := by decide +kernel
theorem dX11_namesOf_37 : decode cX11_namesOf 37 = .ok (.goto 9, 3) := by decide +kernel
theorem dX11_namesOf_40 : decode cX11_namesOf 40 = .ok (.aload_n 0, 1) := by decide +kernel
theorem dX11_namesOf_41 : decode cX11_namesOf 41 = .ok (.iload_n 1, 1) := by decide +kernel
theorem dX11_namesOf_42 : decode cX11_namesOf 42 = .ok (.iload_n 2, 1) := by decide +kernel
theorem dX11_namesOf_43 : decode cX11_namesOf 43 = .ok (.invokevirtual 218, 3) := by decide +kernel
theorem dX11_namesOf_46 : decode cX11_namesOf 46 = .ok (.iastore, 1) := by decide +kernel
theorem dX11_namesOf_47 : decode cX11_namesOf 47 = .ok (.aload_n 0, 1) := by decide +kernel
theorem dX11_namesOf_48 : decode cX11_namesOf 48 = .ok (.getfield 117, 3) := by decide +kernel
theorem dX11_namesOf_51 : decode cX11_namesOf 51 = .ok (.iconst 1, 1) := by decide +kernel
theorem dX11_namesOf_52 : decode cX11_namesOf 52 = .ok (.iload_n 3, 1) := by decide +kernel
theorem dX11_namesOf_53 : decode cX11_namesOf 53 = .ok (.iconst (-1), 1) := by decide +kernel
theorem dX11_namesOf_54 : decode cX11_namesOf 54 = .ok (.if_icmp .ne 7, 3) := by decide +kernel
theorem dX11_namesOf_57 : decode cX11_namesOf 57 = .ok (.iconst 0, 1) := by decide +kernel
theorem dX11_namesOf_58 : decode cX11_namesOf 58 = .ok (.goto 9, 3) := by decide +kernel
theorem dX11_namesOf_61 : decode cX11_namesOf 61 = .ok (.iload_n 2, 1) := by decide +kernel
theorem dX11_namesOf_62 : decode cX11_namesOf 62 = .ok (.iload_n 3, 1) := by decide +kernel
theorem dX11_namesOf_63 : decode cX11_namesOf 63 = .ok (.isub, 1) := by decide +kernel
theorem dX11_namesOf_64 : decode cX11_namesOf 64 = .ok (.bipush 100, 2) := by decide +kernel
theorem dX11_namesOf_66 : decode cX11_namesOf 66 = .ok (.idiv, 1) := by decide +kernel
theorem dX11_namesOf_67 : decode cX11_namesOf 67 = .ok (.iastore, 1) := by decide +kernel
theorem dX11_namesOf_68 : decode cX11_namesOf 68 = .ok (.aload_n 0, 1) := by decide +kernel
theorem dX11_namesOf_69 : decode cX11_namesOf 69 = .ok (.getfield 117, 3) := by decide +kernel
theorem dX11_namesOf_72 : decode cX11_namesOf 72 = .ok (.iconst 2, 1) := by decide +kernel
theorem dX11_namesOf_73 : decode cX11_namesOf 73 = .ok (.iload_n 1, 1) := by decide +kernel
theorem dX11_namesOf_74 : decode cX11_namesOf 74 = .ok (.iconst (-1), 1) := by decide +kernel
theorem dX11_namesOf_75 : decode cX11_namesOf 75 = .ok (.if_icmp .ne 7, 3) := by decide +kernel
theorem dX11_namesOf_78 : decode cX11_namesOf 78 = .ok (.iconst 0, 1) := by decide +kernel
theorem dX11_namesOf_79 : decode cX11_namesOf 79 = .ok (.goto 9, 3) := by decide +kernel
theorem dX11_namesOf_82 : decode cX11_namesOf 82 = .ok (.aload_n 0, 1) := by decide +kernel
theorem dX11_namesOf_83 : decode cX11_namesOf 83 = .ok (.iload_n 1, 1) := by decide +kernel
theorem dX11_namesOf_84 : decode cX11_namesOf 84 = .ok (.iload_n 2, 1) := by decide +kernel
theorem dX11_namesOf_85 : decode cX11_namesOf 85 = .ok (.invokevirtual 206, 3) := by decide +kernel
theorem dX11_namesOf_88 : decode cX11_namesOf 88 = .ok (.iastore, 1) := by decide +kernel
theorem dX11_namesOf_89 : decode cX11_namesOf 89 = .ok (.aload_n 0, 1) := by decide +kernel
theorem dX11_namesOf_90 : decode cX11_namesOf 90 = .ok (.getfield 117, 3) := by decide +kernel
theorem dX11_namesOf_93 : decode cX11_namesOf 93 = .ok (.iconst 3, 1) := by decide +kernel
theorem dX11_namesOf_94 : decode cX11_namesOf 94 = .ok (.iload_n 1, 1) := by decide +kernel
theorem dX11_namesOf_95 : decode cX11_namesOf 95 = .ok (.iconst (-1), 1) := by decide +kernel
theorem dX11_namesOf_96 : decode cX11_namesOf 96 = .ok (.if_icmp .ne 7, 3) := by decide +kernel
theorem dX11_namesOf_99 : decode cX11_namesOf 99 = .ok (.iconst 0, 1) := by decide +kernel
theorem dX11_namesOf_100 : decode cX11_namesOf 100 = .ok (.goto 9, 3) := by decide +kernel
theorem dX11_namesOf_103 : decode cX11_namesOf 103 = .ok (.aload_n 0, 1) := by decide +kernel
theorem dX11_namesOf_104 : decode cX11_namesOf 104 = .ok (.iload_n 1, 1) := by decide +kernel
theorem dX11_namesOf_105 : decode cX11_namesOf 105 = .ok (.iload_n 2, 1) := by decide +kernel
theorem dX11_namesOf_106 : decode cX11_namesOf 106 = .ok (.invokevirtual 203, 3) := by decide +kernel
theorem dX11_namesOf_109 : decode cX11_namesOf 109 = .ok (.iastore, 1) := by decide +kernel
theorem dX11_namesOf_110 : decode cX11_namesOf 110 = .ok (.aload_n 0, 1) := by decide +kernel
theorem dX11_namesOf_111 : decode cX11_namesOf 111 = .ok (.getfield 117, 3) := by decide +kernel
theorem dX11_namesOf_114 : decode cX11_namesOf 114 = .ok (.iconst 4, 1) := by decide +kernel
theorem dX11_namesOf_115 : decode cX11_namesOf 115 = .ok (.iload_n 2, 1) := by decide +kernel
theorem dX11_namesOf_116 : decode cX11_namesOf 116 = .ok (.ifCond .ge 7, 3) := by decide +kernel
theorem dX11_namesOf_119 : decode cX11_namesOf 119 = .ok (.iconst 0, 1) := by decide +kernel
theorem dX11_namesOf_120 : decode cX11_namesOf 120 = .ok (.goto 7, 3) := by decide +kernel
theorem dX11_namesOf_123 : decode cX11_namesOf 123 = .ok (.iload_n 2, 1) := by decide +kernel
theorem dX11_namesOf_124 : decode cX11_namesOf 124 = .ok (.bipush 100, 2) := by decide +kernel
theorem dX11_namesOf_126 : decode cX11_namesOf 126 = .ok (.idiv, 1) := by decide +kernel
theorem dX11_namesOf_127 : decode cX11_namesOf 127 = .ok (.iastore, 1) := by decide +kernel
theorem dX11_namesOf_128 : decode cX11_namesOf 128 = .ok (.return_, 1) := by decide +kernel
set_option maxRecDepth 100000 in
theorem t_M_namesOf_J127 (hC : CX z ad x cX11_namesOf RX11 4 none) (hR : x.2.2.1 = rmk 3 0 0) (σ : MS) (s0 : Int32) (s1 : Int32) : AT z x 4 (wM z τ) rU (eqA ad) 0 0 0 0 ad 127 [] [.int s0, .int s1, .ref 34] σ (M_namesOf_J127 σ s0 s1) := by
  unfold M_namesOf_J127
  refine at_iast hC 34 dX11_namesOf_127 cl_34 st_34 ?_
  exact at_vret (F := eqA ad) (ra := rU) hC dX11_namesOf_128 rfl (Nat.le_refl 0) (Nat.le_refl 0) rfl
set_option maxRecDepth 100000 in
theorem t_M_namesOf_J109 (hC : CX z ad x cX11_namesOf RX11 4 none) (hR : x.2.2.1 = rmk 3 0 0) (σ : MS) (a2 : Int32) (s0 : Int32) (s1 : Int32) : AT z x 4 (wM z τ) rU (eqA ad) 0 0 0 0 ad 109 [(0, .ref 0), (2, .int a2)] [.int s0, .int s1, .ref 34] σ (M_namesOf_J109 σ a2 s0 s1) := by
  unfold M_namesOf_J109
  refine at_iast hC 34 dX11_namesOf_109 cl_34 st_34 ?_
  refine at_aload_n (j := 0) hC rfl rfl dX11_namesOf_110 ?_
  refine gf_X11_117 hC dX11_namesOf_111 ?_
  refine at_iconst hC ic_4 dX11_namesOf_114 ?_
  refine at_iload_n (j := 1) hC rfl rfl dX11_namesOf_115 ?_
  refine at_if_ge (tgt := 123) hC dX11_namesOf_116 rfl (fun _ => ?_) (fun _ => ?_)
  · refine at_iload_n (j := 1) hC rfl rfl dX11_namesOf_123 ?_
    refine at_bipush hC bi_100 dX11_namesOf_124 ?_
    refine at_idiv hC (by decide) dX11_namesOf_126 ?_
    refine at_drop (lv' := []) [] rfl ?_
    exact t_M_namesOf_J127 hC hR (sA σ 49 (upd (σ.2.1 49) s1.toNatClampNeg s0)) (a2 / 100) 4
  · refine at_iconst hC ic_0 dX11_namesOf_119 ?_
    refine at_goto (tgt := 127) hC dX11_namesOf_120 rfl ?_
    refine at_drop (lv' := []) [] rfl ?_
    exact t_M_namesOf_J127 hC hR (sA σ 49 (upd (σ.2.1 49) s1.toNatClampNeg s0)) 0 4
set_option maxRecDepth 100000 in
theorem t_M_namesOf_J88 (hC : CX z ad x cX11_namesOf RX11 4 none) (hR : x.2.2.1 = rmk 3 0 0) (σ : MS) (a1 : Int32) (a2 : Int32) (s0 : Int32) (s1 : Int32) : AT z x 4 (wM z τ) rU (eqA ad) 0 0 0 0 ad 88 [(0, .ref 0), (1, .int a1), (2, .int a2)] [.int s0, .int s1, .ref 34] σ (M_namesOf_J88 σ a1 a2 s0 s1) := by
  unfold M_namesOf_J88
  refine at_iast hC 34 dX11_namesOf_88 cl_34 st_34 ?_
  refine at_aload_n (j := 0) hC rfl rfl dX11_namesOf_89 ?_
  refine gf_X11_117 hC dX11_namesOf_90 ?_
  refine at_iconst hC ic_3 dX11_namesOf_93 ?_
  refine at_iload_n (j := 1) hC rfl rfl dX11_namesOf_94 ?_
  refine at_iconst hC ic_m1 dX11_namesOf_95 ?_
  refine at_icmp_ne (tgt := 103) hC dX11_namesOf_96 rfl (fun _ => ?_) (fun _ => ?_)
  · refine at_aload_n (j := 0) hC rfl rfl dX11_namesOf_103 ?_
    refine at_iload_n (j := 1) hC rfl rfl dX11_namesOf_104 ?_
    refine at_iload_n (j := 2) hC rfl rfl dX11_namesOf_105 ?_
    refine at_callVpI hC hR lk_X11_203 (c_M_weddings (sA σ 49 (upd (σ.2.1 49) s1.toNatClampNeg s0)) a1 a2) dX11_namesOf_106 recX11 rfl rfl ⟨by decide, by decide⟩ (Nat.le_of_ble_eq_true rfl) ⟨Nat.le_refl 0, Nat.le_refl 0⟩ (fun r3 _ => ?_)
    refine at_drop (lv' := [(0, .ref 0), (2, .int a2)]) [0, 2] rfl ?_
    exact t_M_namesOf_J109 hC hR (sA σ 49 (upd (σ.2.1 49) s1.toNatClampNeg s0)) a2 r3 3
  · refine at_iconst hC ic_0 dX11_namesOf_99 ?_
    refine at_goto (tgt := 109) hC dX11_namesOf_100 rfl ?_
    refine at_drop (lv' := [(0, .ref 0), (2, .int a2)]) [0, 2] rfl ?_
    exact t_M_namesOf_J109 hC hR (sA σ 49 (upd (σ.2.1 49) s1.toNatClampNeg s0)) a2 0 3
set_option maxRecDepth 100000 in
theorem t_M_namesOf_J67 (hC : CX z ad x cX11_namesOf RX11 4 none) (hR : x.2.2.1 = rmk 3 0 0) (σ : MS) (a1 : Int32) (a2 : Int32) (s0 : Int32) (s1 : Int32) : AT z x 4 (wM z τ) rU (eqA ad) 0 0 0 0 ad 67 [(0, .ref 0), (1, .int a1), (2, .int a2)] [.int s0, .int s1, .ref 34] σ (M_namesOf_J67 σ a1 a2 s0 s1) := by
  unfold M_namesOf_J67
  refine at_iast hC 34 dX11_namesOf_67 cl_34 st_34 ?_
  refine at_aload_n (j := 0) hC rfl rfl dX11_namesOf_68 ?_
  refine gf_X11_117 hC dX11_namesOf_69 ?_
  refine at_iconst hC ic_2 dX11_namesOf_72 ?_
  refine at_iload_n (j := 1) hC rfl rfl dX11_namesOf_73 ?_
  refine at_iconst hC ic_m1 dX11_namesOf_74 ?_
  refine at_icmp_ne (tgt := 82) hC dX11_namesOf_75 rfl (fun _ => ?_) (fun _ => ?_)
  · refine at_aload_n (j := 0) hC rfl rfl dX11_namesOf_82 ?_
    refine at_iload_n (j := 1) hC rfl rfl dX11_namesOf_83 ?_
    refine at_iload_n (j := 2) hC rfl rfl dX11_namesOf_84 ?_
    refine at_callVpI hC hR lk_X11_206 (c_M_ageOf (sA σ 49 (upd (σ.2.1 49) s1.toNatClampNeg s0)) a1 a2) dX11_namesOf_85 recX11 rfl rfl ⟨by decide, by decide⟩ (Nat.le_of_ble_eq_true rfl) ⟨Nat.le_refl 0, Nat.le_refl 0⟩ (fun r2 _ => ?_)
    exact t_M_namesOf_J88 hC hR (sA σ 49 (upd (σ.2.1 49) s1.toNatClampNeg s0)) a1 a2 r2 2
  · refine at_iconst hC ic_0 dX11_namesOf_78 ?_
    refine at_goto (tgt := 88) hC dX11_namesOf_79 rfl ?_
    exact t_M_namesOf_J88 hC hR (sA σ 49 (upd (σ.2.1 49) s1.toNatClampNeg s0)) a1 a2 0 2
set_option maxRecDepth 100000 in
theorem t_M_namesOf_J46 (hC : CX z ad x cX11_namesOf RX11 4 none) (hR : x.2.2.1 = rmk 3 0 0) (σ : MS) (a1 : Int32) (a2 : Int32) (a3 : Int32) (s0 : Int32) (s1 : Int32) : AT z x 4 (wM z τ) rU (eqA ad) 0 0 0 0 ad 46 [(0, .ref 0), (1, .int a1), (2, .int a2), (3, .int a3)] [.int s0, .int s1, .ref 34] σ (M_namesOf_J46 σ a1 a2 a3 s0 s1) := by
  unfold M_namesOf_J46
  refine at_iast hC 34 dX11_namesOf_46 cl_34 st_34 ?_
  refine at_aload_n (j := 0) hC rfl rfl dX11_namesOf_47 ?_
  refine gf_X11_117 hC dX11_namesOf_48 ?_
  refine at_iconst hC ic_1 dX11_namesOf_51 ?_
  refine at_iload_n (j := 3) hC rfl rfl dX11_namesOf_52 ?_
  refine at_iconst hC ic_m1 dX11_namesOf_53 ?_
  refine at_icmp_ne (tgt := 61) hC dX11_namesOf_54 rfl (fun _ => ?_) (fun _ => ?_)
  · refine at_iload_n (j := 2) hC rfl rfl dX11_namesOf_61 ?_
    refine at_iload_n (j := 3) hC rfl rfl dX11_namesOf_62 ?_
    refine at_isub hC dX11_namesOf_63 ?_
    refine at_bipush hC bi_100 dX11_namesOf_64 ?_
    refine at_idiv hC (by decide) dX11_namesOf_66 ?_
    refine at_drop (lv' := [(0, .ref 0), (1, .int a1), (2, .int a2)]) [0, 1, 2] rfl ?_
    exact t_M_namesOf_J67 hC hR (sA σ 49 (upd (σ.2.1 49) s1.toNatClampNeg s0)) a1 a2 ((a2 - a3) / 100) 1
  · refine at_iconst hC ic_0 dX11_namesOf_57 ?_
    refine at_goto (tgt := 67) hC dX11_namesOf_58 rfl ?_
    refine at_drop (lv' := [(0, .ref 0), (1, .int a1), (2, .int a2)]) [0, 1, 2] rfl ?_
    exact t_M_namesOf_J67 hC hR (sA σ 49 (upd (σ.2.1 49) s1.toNatClampNeg s0)) a1 a2 0 1
set_option maxRecDepth 100000 in
theorem t_M_namesOf_J36 (hC : CX z ad x cX11_namesOf RX11 4 none) (hR : x.2.2.1 = rmk 3 0 0) (σ : MS) (a1 : Int32) (a2 : Int32) (a3 : Int32) (s0 : Int32) : AT z x 4 (wM z τ) rU (eqA ad) 0 0 0 0 ad 36 [(0, .ref 0), (1, .int a1), (2, .int a2), (3, .int a3)] [.int s0, .ref 34] σ (M_namesOf_J36 σ a1 a2 a3 s0) := by
  unfold M_namesOf_J36
  refine at_iconst hC ic_0 dX11_namesOf_36 ?_
  refine at_goto (tgt := 46) hC dX11_namesOf_37 rfl ?_
  exact t_M_namesOf_J46 hC hR σ a1 a2 a3 0 s0
set_option maxRecDepth 100000 in
theorem t_M_namesOf_J15 (hC : CX z ad x cX11_namesOf RX11 4 none) (hR : x.2.2.1 = rmk 3 0 0) (σ : MS) (a1 : Int32) (a2 : Int32) (s0 : Int32) : AT z x 4 (wM z τ) rU (eqA ad) 0 0 0 0 ad 15 [(0, .ref 0), (1, .int a1), (2, .int a2)] [.int s0] σ (M_namesOf_J15 σ a1 a2 s0) := by
  unfold M_namesOf_J15
  refine at_istore_n (lv' := [(3, .int s0), (0, .ref 0), (1, .int a1), (2, .int a2)]) hC rfl dX11_namesOf_15 (by decide) rfl ?_
  refine at_aload_n (j := 1) hC rfl rfl dX11_namesOf_16 ?_
  refine gf_X11_117 hC dX11_namesOf_17 ?_
  refine at_iconst hC ic_0 dX11_namesOf_20 ?_
  refine at_iload_n (j := 2) hC rfl rfl dX11_namesOf_21 ?_
  refine at_iconst hC ic_m1 dX11_namesOf_22 ?_
  refine at_icmp_eq (tgt := 36) hC dX11_namesOf_23 rfl (fun _ => ?_) (fun _ => ?_)
  · refine at_drop (lv' := [(0, .ref 0), (1, .int a1), (2, .int a2), (3, .int s0)]) [1, 2, 3, 0] rfl ?_
    exact t_M_namesOf_J36 hC hR σ a1 a2 s0 0
  · refine at_aload_n (j := 1) hC rfl rfl dX11_namesOf_26 ?_
    refine at_iload_n (j := 2) hC rfl rfl dX11_namesOf_27 ?_
    refine at_iload_n (j := 3) hC rfl rfl dX11_namesOf_28 ?_
    refine at_callVpI hC hR lk_X11_218 (c_M_rateAt σ a1 a2) dX11_namesOf_29 recX11 rfl rfl ⟨by decide, by decide⟩ (Nat.le_of_ble_eq_true rfl) ⟨Nat.le_refl 0, Nat.le_refl 0⟩ (fun r4 _ => ?_)
    refine at_iconst hC ic_m1 dX11_namesOf_32 ?_
    refine at_icmp_ne (tgt := 40) hC dX11_namesOf_33 rfl (fun _ => ?_) (fun _ => ?_)
    · refine at_aload_n (j := 1) hC rfl rfl dX11_namesOf_40 ?_
      refine at_iload_n (j := 2) hC rfl rfl dX11_namesOf_41 ?_
      refine at_iload_n (j := 3) hC rfl rfl dX11_namesOf_42 ?_
      refine at_callVpI hC hR lk_X11_218 (c_M_rateAt σ a1 a2) dX11_namesOf_43 recX11 rfl rfl ⟨by decide, by decide⟩ (Nat.le_of_ble_eq_true rfl) ⟨Nat.le_refl 0, Nat.le_refl 0⟩ (fun r5 _ => ?_)
      refine at_drop (lv' := [(0, .ref 0), (1, .int a1), (2, .int a2), (3, .int s0)]) [1, 2, 3, 0] rfl ?_
      exact t_M_namesOf_J46 hC hR σ a1 a2 s0 r5 0
    · refine at_drop (lv' := [(0, .ref 0), (1, .int a1), (2, .int a2), (3, .int s0)]) [1, 2, 3, 0] rfl ?_
      exact t_M_namesOf_J36 hC hR σ a1 a2 s0 0
set_option maxRecDepth 100000 in
theorem c_M_namesOf (σ : MS) (p0 : Int32) (p1 : Int32) : Ct z (wM z τ) rU eqA yX11_namesOf cX11_namesOf 4 none 3 0 0 [.ref 0, .int p0, .int p1] σ (M_namesOf σ p0 p1) := by
  refine Ct.of (by decide) (Nat.le_of_ble_eq_true rfl) (fun ad x hC hR _ => ?_)
  show AT z x 4 (wM z τ) rU (eqA ad) 0 0 0 0 ad 0 [(0, .ref 0), (1, .int p0), (2, .int p1)] [] σ (M_namesOf σ p0 p1)
  unfold M_namesOf
  refine at_iload_n (j := 1) hC rfl rfl dX11_namesOf_0 ?_
  refine at_iconst hC ic_m1 dX11_namesOf_1 ?_
  refine at_icmp_ne (tgt := 9) hC dX11_namesOf_2 rfl (fun _ => ?_) (fun _ => ?_)
  · refine at_aload_n (j := 0) hC rfl rfl dX11_namesOf_9 ?_
    refine at_iload_n (j := 1) hC rfl rfl dX11_namesOf_10 ?_
    refine at_iload_n (j := 2) hC rfl rfl dX11_namesOf_11 ?_
    refine at_callVpI hC hR lk_X11_200 (c_M_firstJoined σ p0 p1) dX11_namesOf_12 recX11 rfl rfl ⟨by decide, by decide⟩ (Nat.le_of_ble_eq_true rfl) ⟨Nat.le_refl 0, Nat.le_refl 0⟩ (fun r1 _ => ?_)
    exact t_M_namesOf_J15 hC hR σ p0 p1 r1
  · refine at_iconst hC ic_m1 dX11_namesOf_5 ?_
    refine at_goto (tgt := 15) hC dX11_namesOf_6 rfl ?_
    exact t_M_namesOf_J15 hC hR σ p0 p1 (-1)
end G
