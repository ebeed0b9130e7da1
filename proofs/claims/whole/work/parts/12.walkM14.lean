section G
variable {z : ZZ} {x : XX} {ad : Nat → Nat} {τ : XS}
theorem dX11_row_0 : decode cX11_row 0 = .ok (.aload_n 0, 1) := by decide +kernel
theorem dX11_row_1 : decode cX11_row 1 = .ok (.getfield 441, 3) := by decide +kernel
theorem dX11_row_4 : decode cX11_row 4 = .ok (.iconst 4, 1) := by decide +kernel
theorem dX11_row_5 : decode cX11_row 5 = .ok (.if_icmp .ne 6, 3) := by decide +kernel
theorem dX11_row_8 : decode cX11_row 8 = .ok (.bipush (-4), 2) := by decide +kernel
theorem dX11_row_10 : decode cX11_row 10 = .ok (.ireturn, 1) := by decide +kernel
theorem dX11_row_11 : decode cX11_row 11 = .ok (.aload_n 0, 1) := by decide +kernel
theorem dX11_row_12 : decode cX11_row 12 = .ok (.dup, 1) := by decide +kernel
theorem dX11_row_13 : decode cX11_row 13 = .ok (.getfield 441, 3) := by decide +kernel
theorem dX11_row_16 : decode cX11_row 16 = .ok (.iconst 1, 1) := by decide +kernel
theorem dX11_row_17 : decode cX11_row 17 = .ok (.iadd, 1) := by decide +kernel
theorem dX11_row_18 : decode cX11_row 18 = .ok (.putfield 441, 3) := by decide +kernel
theorem dX11_row_21 : decode cX11_row 21 = .ok (.aload_n 0, 1) := by decide +kernel
theorem dX11_row_22 : decode cX11_row 22 = .ok (.getfield 441, 3) := by decide +kernel
theorem dX11_row_25 : decode cX11_row 25 = .ok (.iconst 1, 1) := by decide +kernel
theorem dX11_row_26 : decode cX11_row 26 = .ok (.isub, 1) := by decide +kernel
theorem dX11_row_27 : decode cX11_row 27 = .ok (.ireturn, 1) := by decide +kernel
set_option maxRecDepth 100000 in
theorem c_M_row (σ : MS) : Ct z (wM z τ) rI eqA yX11_row cX11_row 1 (some .int) 1 0 0 [.ref 0] σ (M_row σ) := by
  refine Ct.of (by decide) (Nat.le_of_ble_eq_true rfl) (fun ad x hC hR _ => ?_)
  show AT z x 1 (wM z τ) rI (eqA ad) 0 0 0 0 ad 0 [(0, .ref 0)] [] σ (M_row σ)
  unfold M_row
  refine at_aload_n (j := 0) hC rfl rfl dX11_row_0 ?_
  refine gf_X11_441 hC dX11_row_1 ?_
  refine at_iconst hC ic_4 dX11_row_4 ?_
  refine at_icmp_ne (tgt := 11) hC dX11_row_5 rfl (fun _ => ?_) (fun _ => ?_)
  · refine at_aload_n (j := 0) hC rfl rfl dX11_row_11 ?_
    refine at_dup hC rfl dX11_row_12 ?_
    refine gf_X11_441 hC dX11_row_13 ?_
    refine at_iconst hC ic_1 dX11_row_16 ?_
    refine at_iadd hC dX11_row_17 ?_
    refine pf_X11_441 hC dX11_row_18 ?_
    refine at_aload_n (j := 0) hC rfl rfl dX11_row_21 ?_
    refine gf_X11_441 hC dX11_row_22 ?_
    refine at_iconst hC ic_1 dX11_row_25 ?_
    refine at_isub hC dX11_row_26 ?_
    exact at_iret (F := eqA ad) (ra := rI) hC dX11_row_27 rfl (Nat.le_refl 0) (Nat.le_refl 0) rfl
  · refine at_bipush hC bi_m4 dX11_row_8 ?_
    exact at_iret (F := eqA ad) (ra := rI) hC dX11_row_10 rfl (Nat.le_refl 0) (Nat.le_refl 0) rfl
theorem dX11_rows_0 : decode cX11_rows 0 = .ok (.iload_n 1, 1) := by decide +kernel
theorem dX11_rows_1 : decode cX11_rows 1 = .ok (.iconst 0, 1) := by decide +kernel
theorem dX11_rows_2 : decode cX11_rows 2 = .ok (.aload_n 0, 1) := by decide +kernel
theorem dX11_rows_3 : decode cX11_rows 3 = .ok (.getfield 441, 3) := by decide +kernel
theorem dX11_rows_6 : decode cX11_rows 6 = .ok (.iconst 1, 1) := by decide +kernel
theorem dX11_rows_7 : decode cX11_rows 7 = .ok (.isub, 1) := by decide +kernel
theorem dX11_rows_8 : decode cX11_rows 8 = .ok (.invokestatic 129, 3) := by decide +kernel
theorem dX11_rows_11 : decode cX11_rows 11 = .ok (.ifCond .eq 11, 3) := by decide +kernel
theorem dX11_rows_14 : decode cX11_rows 14 = .ok (.aload_n 0, 1) := by decide +kernel
theorem dX11_rows_15 : decode cX11_rows 15 = .ok (.iload_n 2, 1) := by decide +kernel
theorem dX11_rows_16 : decode cX11_rows 16 = .ok (.invokevirtual 133, 3) := by decide +kernel
theorem dX11_rows_19 : decode cX11_rows 19 = .ok (.ifCond .ne 5, 3) := by decide +kernel
theorem dX11_rows_22 : decode cX11_rows 22 = .ok (.iconst (-1), 1) := by decide +kernel
theorem dX11_rows_23 : decode cX11_rows 23 = .ok (.ireturn, 1) := by decide +kernel
theorem dX11_rows_24 : decode cX11_rows 24 = .ok (.iload_n 3, 1) := by decide +kernel
theorem dX11_rows_25 : decode cX11_rows 25 = .ok (.invokestatic 379, 3) := by decide +kernel
theorem dX11_rows_28 : decode cX11_rows 28 = .ok (.ifCond .ne 6, 3) := by decide +kernel
theorem dX11_rows_31 : decode cX11_rows 31 = .ok (.bipush (-2), 2) := by decide +kernel
theorem dX11_rows_33 : decode cX11_rows 33 = .ok (.ireturn, 1) := by decide +kernel
theorem dX11_rows_34 : decode cX11_rows 34 = .ok (.aload_n 0, 1) := by decide +kernel
theorem dX11_rows_35 : decode cX11_rows 35 = .ok (.getfield 92, 3) := by decide +kernel
theorem dX11_rows_38 : decode cX11_rows 38 = .ok (.iload_n 1, 1) := by decide +kernel
theorem dX11_rows_39 : decode cX11_rows 39 = .ok (.iaload, 1) := by decide +kernel
theorem dX11_rows_40 : decode cX11_rows 40 = .ok (.bipush 8, 2) := by decide +kernel
theorem dX11_rows_42 : decode cX11_rows 42 = .ok (.if_icmp .ne 6, 3) := by decide +kernel
theorem dX11_rows_45 : decode cX11_rows 45 = .ok (.bipush (-4), 2) := by decide +kernel
theorem dX11_rows_47 : decode cX11_rows 47 = .ok (.ireturn, 1) := by decide +kernel
theorem dX11_rows_48 : decode cX11_rows 48 = .ok (.aload_n 0, 1) := by decide +kernel
theorem dX11_rows_49 : decode cX11_rows 49 = .ok (.getfield 95, 3) := by decide +kernel
theorem dX11_rows_52 : decode cX11_rows 52 = .ok (.bipush 8, 2) := by decide +kernel
theorem dX11_rows_54 : decode cX11_rows 54 = .ok (.iload_n 1, 1) := by decide +kernel
theorem dX11_rows_55 : decode cX11_rows 55 = .ok (.imul, 1) := by decide +kernel
theorem dX11_rows_56 : decode cX11_rows 56 = .ok (.aload_n 0, 1) := by decide +kernel
theorem dX11_rows_57 : decode cX11_rows 57 = .ok (.getfield 92, 3) := by decide +kernel
theorem dX11_rows_60 : decode cX11_rows 60 = .ok (.iload_n 1, 1) := by decide +kernel
theorem dX11_rows_61 : decode cX11_rows 61 = .ok (.iaload, 1) := by decide +kernel
theorem dX11_rows_62 : decode cX11_rows 62 = .ok (.iadd, 1) := by decide +kernel
theorem dX11_rows_63 : decode cX11_rows 63 = .ok (.iload_n 2, 1) := by decide +kernel
theorem dX11_rows_64 : decode cX11_rows 64 = .ok (.iastore, 1) := by decide +kernel
theorem dX11_rows_65 : decode cX11_rows 65 = .ok (.aload_n 0, 1) := by decide +kernel
theorem dX11_rows_66 : decode cX11_rows 66 = .ok (.getfield 98, 3) := by decide +kernel
theorem dX11_rows_69 : decode cX11_rows 69 = .ok (.bipush 8, 2) := by decide +kernel
theorem dX11_rows_71 : decode cX11_rows 71 = .ok (.iload_n 1, 1) := by decide +kernel
theorem dX11_rows_72 : decode cX11_rows 72 = .ok (.imul, 1) := by decide +kernel
theorem dX11_rows_73 : decode cX11_rows 73 = .ok (.aload_n 0, 1) := by decide +kernel
theorem dX11_rows_74 : decode cX11_rows 74 = .ok (.getfield 92, 3) := by decide +kernel
theorem dX11_rows_77 : decode cX11_rows 77 = .ok (.iload_n 1, 1) := by decide +kernel
theorem dX11_rows_78 : decode cX11_rows 78 = .ok (.iaload, 1) := by decide +kernel
theorem dX11_rows_79 : decode cX11_rows 79 = .ok (.iadd, 1) := by decide +kernel
theorem dX11_rows_80 : decode cX11_rows 80 = .ok (.iload_n 3, 1) := by decide +kernel
theorem dX11_rows_81 : decode cX11_rows 81 = .ok (.iastore, 1) := by decide +kernel
theorem dX11_rows_82 : decode cX11_rows 82 = .ok (.aload_n 0, 1) := by decide +kernel
theorem dX11_rows_83 : decode cX11_rows 83 = .ok (.getfield 92, 3) := by decide +kernel
theorem dX11_rows_86 : decode cX11_rows 86 = .ok (.iload_n 1, 1) := by decide +kernel
theorem dX11_rows_87 : decode cX11_rows 87 = .ok (.dup2, 1) := by decide +kernel
theorem dX11_rows_88 : decode cX11_rows 88 = .ok (.iaload, 1) := by decide +kernel
theorem dX11_rows_89 : decode cX11_rows 89 = .ok (.iconst 1, 1) := by decide +kernel
theorem dX11_rows_90 : decode cX11_rows 90 = .ok (.iadd, 1) := by decide +kernel
theorem dX11_rows_91 : decode cX11_rows 91 = .ok (.iastore, 1) := by decide +kernel
theorem dX11_rows_92 : decode cX11_rows 92 = .ok (.aload_n 0, 1) := by decide +kernel
theorem dX11_rows_93 : decode cX11_rows 93 = .ok (.getfield 92, 3) := by decide +kernel
theorem dX11_rows_96 : decode cX11_rows 96 = .ok (.iload_n 1, 1) := by decide +kernel
theorem dX11_rows_97 : decode cX11_rows 97 = .ok (.iaload, 1) := by decide +kernel
theorem dX11_rows_98 : decode cX11_rows 98 = .ok (.ireturn, 1) := by decide +kernel
set_option maxRecDepth 100000 in
theorem c_M_rows (σ : MS) (p0 : Int32) (p1 : Int32) (p2 : Int32) : Ct z (wM z τ) rI eqA yX11_rows cX11_rows 4 (some .int) 3 0 0 [.ref 0, .int p0, .int p1, .int p2] σ (M_rows σ p0 p1 p2) := by
  refine Ct.of (by decide) (Nat.le_of_ble_eq_true rfl) (fun ad x hC hR _ => ?_)
  show AT z x 4 (wM z τ) rI (eqA ad) 0 0 0 0 ad 0 [(0, .ref 0), (1, .int p0), (2, .int p1), (3, .int p2)] [] σ (M_rows σ p0 p1 p2)
  unfold M_rows
  refine at_iload_n (j := 1) hC rfl rfl dX11_rows_0 ?_
  refine at_iconst hC ic_0 dX11_rows_1 ?_
  refine at_aload_n (j := 0) hC rfl rfl dX11_rows_2 ?_
  refine gf_X11_441 hC dX11_rows_3 ?_
  refine at_iconst hC ic_1 dX11_rows_6 ?_
  refine at_isub hC dX11_rows_7 ?_
  refine at_callSpI hC hR lk_X11_129 (c_M_in σ p0 0 ((σ.1 35) - 1)) dX11_rows_8 rfl rfl ⟨by decide, by decide⟩ (Nat.le_of_ble_eq_true rfl) ⟨Nat.le_refl 0, Nat.le_refl 0⟩ (fun r1 _ => ?_)
  refine at_if_eq (tgt := 22) hC dX11_rows_11 rfl (fun _ => ?_) (fun _ => ?_)
  · refine at_iconst hC ic_m1 dX11_rows_22 ?_
    exact at_iret (F := eqA ad) (ra := rI) hC dX11_rows_23 rfl (Nat.le_refl 0) (Nat.le_refl 0) rfl
  · refine at_aload_n (j := 0) hC rfl rfl dX11_rows_14 ?_
    refine at_iload_n (j := 2) hC rfl rfl dX11_rows_15 ?_
    refine at_callVpI hC hR lk_X11_133 (c_M_isPerson σ p1) dX11_rows_16 recX11 rfl rfl ⟨by decide, by decide⟩ (Nat.le_of_ble_eq_true rfl) ⟨Nat.le_refl 0, Nat.le_refl 0⟩ (fun r2 _ => ?_)
    refine at_if_ne (tgt := 24) hC dX11_rows_19 rfl (fun _ => ?_) (fun _ => ?_)
    · refine at_iload_n (j := 3) hC rfl rfl dX11_rows_24 ?_
      refine at_callSpI hC hR lk_X11_379 (c_M_isYear σ p2) dX11_rows_25 rfl rfl ⟨by decide, by decide⟩ (Nat.le_of_ble_eq_true rfl) ⟨Nat.le_refl 0, Nat.le_refl 0⟩ (fun r3 _ => ?_)
      refine at_if_ne (tgt := 34) hC dX11_rows_28 rfl (fun _ => ?_) (fun _ => ?_)
      · refine at_aload_n (j := 0) hC rfl rfl dX11_rows_34 ?_
        refine gf_X11_92 hC dX11_rows_35 ?_
        refine at_iload_n (j := 1) hC rfl rfl dX11_rows_38 ?_
        refine at_iald hC 26 dX11_rows_39 cl_26 (fun v4 => ?_)
        refine at_bipush hC bi_8 dX11_rows_40 ?_
        refine at_icmp_ne (tgt := 48) hC dX11_rows_42 rfl (fun _ => ?_) (fun _ => ?_)
        · refine at_aload_n (j := 0) hC rfl rfl dX11_rows_48 ?_
          refine gf_X11_95 hC dX11_rows_49 ?_
          refine at_bipush hC bi_8 dX11_rows_52 ?_
          refine at_iload_n (j := 1) hC rfl rfl dX11_rows_54 ?_
          refine at_imul hC dX11_rows_55 ?_
          refine at_aload_n (j := 0) hC rfl rfl dX11_rows_56 ?_
          refine gf_X11_92 hC dX11_rows_57 ?_
          refine at_iload_n (j := 1) hC rfl rfl dX11_rows_60 ?_
          refine at_iald hC 26 dX11_rows_61 cl_26 (fun v5 => ?_)
          refine at_iadd hC dX11_rows_62 ?_
          refine at_iload_n (j := 2) hC rfl rfl dX11_rows_63 ?_
          refine at_iast hC 27 dX11_rows_64 cl_27 st_27 ?_
          refine at_aload_n (j := 0) hC rfl rfl dX11_rows_65 ?_
          refine gf_X11_98 hC dX11_rows_66 ?_
          refine at_bipush hC bi_8 dX11_rows_69 ?_
          refine at_iload_n (j := 1) hC rfl rfl dX11_rows_71 ?_
          refine at_imul hC dX11_rows_72 ?_
          refine at_aload_n (j := 0) hC rfl rfl dX11_rows_73 ?_
          refine gf_X11_92 hC dX11_rows_74 ?_
          refine at_iload_n (j := 1) hC rfl rfl dX11_rows_77 ?_
          refine at_iald hC 26 dX11_rows_78 cl_26 (fun v6 => ?_)
          refine at_iadd hC dX11_rows_79 ?_
          refine at_iload_n (j := 3) hC rfl rfl dX11_rows_80 ?_
          refine at_iast hC 28 dX11_rows_81 cl_28 st_28 ?_
          refine at_aload_n (j := 0) hC rfl rfl dX11_rows_82 ?_
          refine gf_X11_92 hC dX11_rows_83 ?_
          refine at_iload_n (j := 1) hC rfl rfl dX11_rows_86 ?_
          refine at_dup2 hC rfl rfl dX11_rows_87 ?_
          refine at_iald hC 26 dX11_rows_88 cl_26 (fun v7 => ?_)
          refine at_iconst hC ic_1 dX11_rows_89 ?_
          refine at_iadd hC dX11_rows_90 ?_
          refine at_iast hC 26 dX11_rows_91 cl_26 st_26 ?_
          refine at_aload_n (j := 0) hC rfl rfl dX11_rows_92 ?_
          refine gf_X11_92 hC dX11_rows_93 ?_
          refine at_iload_n (j := 1) hC rfl rfl dX11_rows_96 ?_
          refine at_iald hC 26 dX11_rows_97 cl_26 (fun v8 => ?_)
          exact at_iret (F := eqA ad) (ra := rI) hC dX11_rows_98 rfl (Nat.le_refl 0) (Nat.le_refl 0) rfl
        · refine at_bipush hC bi_m4 dX11_rows_45 ?_
          exact at_iret (F := eqA ad) (ra := rI) hC dX11_rows_47 rfl (Nat.le_refl 0) (Nat.le_refl 0) rfl
      · refine at_bipush hC bi_m2 dX11_rows_31 ?_
        exact at_iret (F := eqA ad) (ra := rI) hC dX11_rows_33 rfl (Nat.le_refl 0) (Nat.le_refl 0) rfl
    · refine at_iconst hC ic_m1 dX11_rows_22 ?_
      exact at_iret (F := eqA ad) (ra := rI) hC dX11_rows_23 rfl (Nat.le_refl 0) (Nat.le_refl 0) rfl
theorem dX11_walks_0 : decode cX11_walks 0 = .ok (.iconst 0, 1) := by decide +kernel
theorem dX11_walks_1 : decode cX11_walks 1 = .ok (.istore_n 2, 1) := by decide +kernel
theorem dX11_walks_2 : decode cX11_walks 2 = .ok (.iload_n 2, 1) := by decide +kernel
theorem dX11_walks_3 : decode cX11_walks 3 = .ok (.iconst 4, 1) := by decide +kernel
theorem dX11_walks_4 : decode cX11_walks 4 = .ok (.if_icmp .ge 17, 3) := by decide +kernel
theorem dX11_walks_7 : decode cX11_walks 7 = .ok (.aload_n 0, 1) := by decide +kernel
theorem dX11_walks_8 : decode cX11_walks 8 = .ok (.getfield 120, 3) := by decide +kernel
theorem dX11_walks_11 : decode cX11_walks 11 = .ok (.iload_n 2, 1) := by decide +kernel
theorem dX11_walks_12 : decode cX11_walks 12 = .ok (.bipush 100, 2) := by decide +kernel
theorem dX11_walks_14 : decode cX11_walks 14 = .ok (.iastore, 1) := by decide +kernel
theorem dX11_walks_15 : decode cX11_walks 15 = .ok (.iinc 2 1, 3) := by decide +kernel
theorem dX11_walks_18 : decode cX11_walks 18 = .ok (.goto (-16), 3) := by decide +kernel
theorem dX11_walks_21 : decode cX11_walks 21 = .ok (.iconst 0, 1) := by decide +kernel
theorem dX11_walks_22 : decode cX11_walks 22 = .ok (.istore_n 2, 1) := by decide +kernel
theorem dX11_walks_23 : decode cX11_walks 23 = .ok (.iload_n 2, 1) := by decide +kernel
theorem dX11_walks_24 : decode cX11_walks 24 = .ok (.aload_n 0, 1) := by decide +kernel
theorem dX11_walks_25 : decode cX11_walks 25 = .ok (.getfield 444, 3) := by decide +kernel
theorem dX11_walks_28 : decode cX11_walks 28 = .ok (.if_icmp .ge 35, 3) := by decide +kernel
theorem dX11_walks_31 : decode cX11_walks 31 = .ok (.iload_n 1, 1) := by decide +kernel
theorem dX11_walks_32 : decode cX11_walks 32 = .ok (.iload_n 2, 1) := by decide +kernel
theorem dX11_walks_33 : decode cX11_walks 33 = .ok (.ishr, 1) := by decide +kernel
theorem dX11_walks_34 : decode cX11_walks 34 = .ok (.iconst 1, 1) := by decide +kernel
theorem dX11_walks_35 : decode cX11_walks 35 = .ok (.iand, 1) := by decide +kernel
theorem dX11_walks_36 : decode cX11_walks 36 = .ok (.iconst 1, 1) := by decide +kernel
theorem dX11_walks_37 : decode cX11_walks 37 = .ok (.if_icmp .ne 20, 3) := by decide +kernel
theorem dX11_walks_40 : decode cX11_walks 40 = .ok (.aload_n 0, 1) := by decide +kernel
theorem dX11_walks_41 : decode cX11_walks 41 = .ok (.getfield 120, 3) := by decide +kernel
theorem dX11_walks_44 : decode cX11_walks 44 = .ok (.aload_n 0, 1) := by decide +kernel
theorem dX11_walks_45 : decode cX11_walks 45 = .ok (.getfield 101, 3) := by decide +kernel
theorem dX11_walks_48 : decode cX11_walks 48 = .ok (.iload_n 2, 1) := by decide +kernel
theorem dX11_walks_49 : decode cX11_walks 49 = .ok (.iaload, 1) := by decide +kernel
theorem dX11_walks_50 : decode cX11_walks 50 = .ok (.aload_n 0, 1) := by decide +kernel
theorem dX11_walks_51 : decode cX11_walks 51 = .ok (.getfield 104, 3) := by decide +kernel
theorem dX11_walks_54 : decode cX11_walks 54 = .ok (.iload_n 2, 1) := by decide +kernel
theorem dX11_walks_55 : decode cX11_walks 55 = .ok (.iaload, 1) := by decide +kernel
theorem dX11_walks_56 : decode cX11_walks 56 = .ok (.iastore, 1) := by decide +kernel
theorem dX11_walks_57 : decode cX11_walks 57 = .ok (.iinc 2 1, 3) := by decide +kernel
theorem dX11_walks_60 : decode cX11_walks 60 = .ok (.goto (-37), 3) := by decide +kernel
theorem dX11_walks_63 : decode cX11_walks 63 = .ok (.return_, 1) := by decide +kernel
set_option maxRecDepth 100000 in
theorem t_M_walks_J57 (hC : CX z ad x cX11_walks RX11 3 none) (hR : x.2.2.1 = rmk 1 0 0) (k_23 : MS → Int32 → Int32 → Option (Unit × MS)) (hk_23 : ∀ (σ : MS) (a1 : Int32) (a2 : Int32), AT z x 3 (wM z τ) rU (eqA ad) 0 0 0 0 ad 23 [(0, .ref 0), (1, .int a1), (2, .int a2)] [] σ (k_23 σ a1 a2)) (σ : MS) (a1 : Int32) (a2 : Int32) : AT z x 3 (wM z τ) rU (eqA ad) 0 0 0 0 ad 57 [(0, .ref 0), (1, .int a1), (2, .int a2)] [] σ (M_walks_J57 k_23 σ a1 a2) := by
  unfold M_walks_J57
  refine at_iinc (j := 2) (v := a2 + 1) (lv' := [(2, .int (a2 + 1)), (0, .ref 0), (1, .int a1)]) hC dX11_walks_57 rfl rfl (by decide) rfl ?_
  refine at_goto (tgt := 23) hC dX11_walks_60 rfl ?_
  refine at_drop (lv' := [(0, .ref 0), (1, .int a1), (2, .int (a2 + 1))]) [1, 2, 0] rfl ?_
  exact hk_23 σ a1 (a2 + 1)
set_option maxRecDepth 100000 in
theorem t_M_walks_L23 (hC : CX z ad x cX11_walks RX11 3 none) (hR : x.2.2.1 = rmk 1 0 0) (n : Nat) (σ : MS) (a1 : Int32) (a2 : Int32) : AT z x 3 (wM z τ) rU (eqA ad) 0 0 0 0 ad 23 [(0, .ref 0), (1, .int a1), (2, .int a2)] [] σ (M_walks_L23 n σ a1 a2) := by
  revert σ a1 a2
  show ∀ (σ : MS) (a1 : Int32) (a2 : Int32), AT z x 3 (wM z τ) rU (eqA ad) 0 0 0 0 ad 23 [(0, .ref 0), (1, .int a1), (2, .int a2)] [] σ (M_walks_L23_r n σ a1 a2)
  induction n with
  | zero => intro σ a1 a2; exact at_none
  | succ n hk_23 =>
    intro σ a1 a2
    unfold M_walks_L23_r
    refine at_iload_n (j := 2) hC rfl rfl dX11_walks_23 ?_
    refine at_aload_n (j := 0) hC rfl rfl dX11_walks_24 ?_
    refine gf_X11_444 hC dX11_walks_25 ?_
    refine at_icmp_ge (tgt := 63) hC dX11_walks_28 rfl (fun _ => ?_) (fun _ => ?_)
    · exact at_vret (F := eqA ad) (ra := rU) hC dX11_walks_63 rfl (Nat.le_refl 0) (Nat.le_refl 0) rfl
    · refine at_iload_n (j := 1) hC rfl rfl dX11_walks_31 ?_
      refine at_iload_n (j := 2) hC rfl rfl dX11_walks_32 ?_
      refine at_ishr hC dX11_walks_33 ?_
      refine at_iconst hC ic_1 dX11_walks_34 ?_
      refine at_iand hC dX11_walks_35 ?_
      refine at_iconst hC ic_1 dX11_walks_36 ?_
      refine at_icmp_ne (tgt := 57) hC dX11_walks_37 rfl (fun _ => ?_) (fun _ => ?_)
      · exact t_M_walks_J57 hC hR (M_walks_L23_r n) hk_23 σ a1 a2
      · refine at_aload_n (j := 0) hC rfl rfl dX11_walks_40 ?_
        refine gf_X11_120 hC dX11_walks_41 ?_
        refine at_aload_n (j := 0) hC rfl rfl dX11_walks_44 ?_
        refine gf_X11_101 hC dX11_walks_45 ?_
        refine at_iload_n (j := 2) hC rfl rfl dX11_walks_48 ?_
        refine at_iald hC 29 dX11_walks_49 cl_29 (fun v1 => ?_)
        refine at_aload_n (j := 0) hC rfl rfl dX11_walks_50 ?_
        refine gf_X11_104 hC dX11_walks_51 ?_
        refine at_iload_n (j := 2) hC rfl rfl dX11_walks_54 ?_
        refine at_iald hC 30 dX11_walks_55 cl_30 (fun v2 => ?_)
        refine at_iast hC 35 dX11_walks_56 cl_35 st_35 ?_
        exact t_M_walks_J57 hC hR (M_walks_L23_r n) hk_23 (sA σ 51 (upd (σ.2.1 51) v1.toNatClampNeg v2)) a1 a2
set_option maxRecDepth 100000 in
theorem t_M_walks_L2 (hC : CX z ad x cX11_walks RX11 3 none) (hR : x.2.2.1 = rmk 1 0 0) (n : Nat) (σ : MS) (a1 : Int32) (a2 : Int32) : AT z x 3 (wM z τ) rU (eqA ad) 0 0 0 0 ad 2 [(0, .ref 0), (1, .int a1), (2, .int a2)] [] σ (M_walks_L2 n σ a1 a2) := by
  revert σ a1 a2
  show ∀ (σ : MS) (a1 : Int32) (a2 : Int32), AT z x 3 (wM z τ) rU (eqA ad) 0 0 0 0 ad 2 [(0, .ref 0), (1, .int a1), (2, .int a2)] [] σ (M_walks_L2_r n σ a1 a2)
  induction n with
  | zero => intro σ a1 a2; exact at_none
  | succ n hk_2 =>
    intro σ a1 a2
    unfold M_walks_L2_r
    refine at_iload_n (j := 2) hC rfl rfl dX11_walks_2 ?_
    refine at_iconst hC ic_4 dX11_walks_3 ?_
    refine at_icmp_ge (tgt := 21) hC dX11_walks_4 rfl (fun _ => ?_) (fun _ => ?_)
    · refine at_iconst hC ic_0 dX11_walks_21 ?_
      refine at_istore_n (lv' := [(2, .int 0), (0, .ref 0), (1, .int a1)]) hC rfl dX11_walks_22 (by decide) rfl ?_
      refine at_drop (lv' := [(0, .ref 0), (1, .int a1), (2, .int 0)]) [1, 2, 0] rfl ?_
      exact t_M_walks_L23 hC hR 100000 σ a1 0
    · refine at_aload_n (j := 0) hC rfl rfl dX11_walks_7 ?_
      refine gf_X11_120 hC dX11_walks_8 ?_
      refine at_iload_n (j := 2) hC rfl rfl dX11_walks_11 ?_
      refine at_bipush hC bi_100 dX11_walks_12 ?_
      refine at_iast hC 35 dX11_walks_14 cl_35 st_35 ?_
      refine at_iinc (j := 2) (v := a2 + 1) (lv' := [(2, .int (a2 + 1)), (0, .ref 0), (1, .int a1)]) hC dX11_walks_15 rfl rfl (by decide) rfl ?_
      refine at_goto (tgt := 2) hC dX11_walks_18 rfl ?_
      refine at_drop (lv' := [(0, .ref 0), (1, .int a1), (2, .int (a2 + 1))]) [1, 2, 0] rfl ?_
      exact hk_2 (sA σ 51 (upd (σ.2.1 51) a2.toNatClampNeg 100)) a1 (a2 + 1)
set_option maxRecDepth 100000 in
theorem c_M_walks (σ : MS) (p0 : Int32) : Ct z (wM z τ) rU eqA yX11_walks cX11_walks 3 none 1 0 0 [.ref 0, .int p0] σ (M_walks σ p0) := by
  refine Ct.of (by decide) (Nat.le_of_ble_eq_true rfl) (fun ad x hC hR _ => ?_)
  show AT z x 3 (wM z τ) rU (eqA ad) 0 0 0 0 ad 0 [(0, .ref 0), (1, .int p0)] [] σ (M_walks σ p0)
  unfold M_walks
  refine at_iconst hC ic_0 dX11_walks_0 ?_
  refine at_istore_n (lv' := [(2, .int 0), (0, .ref 0), (1, .int p0)]) hC rfl dX11_walks_1 (by decide) rfl ?_
  refine at_drop (lv' := [(0, .ref 0), (1, .int p0), (2, .int 0)]) [1, 2, 0] rfl ?_
  exact t_M_walks_L2 hC hR 100000 σ p0 0
theorem dX11_shortOf_0 : decode cX11_shortOf 0 = .ok (.aload_n 0, 1) := by decide +kernel
theorem dX11_shortOf_1 : decode cX11_shortOf 1 = .ok (.iload_n 1, 1) := by decide +kernel
theorem dX11_shortOf_2 : decode cX11_shortOf 2 = .ok (.invokevirtual 447, 3) := by decide +kernel
theorem dX11_shortOf_5 : decode cX11_shortOf 5 = .ok (.lload 4, 2) := by decide +kernel
theorem dX11_shortOf_7 : decode cX11_shortOf 7 = .ok (.lstore 6, 2) := by decide +kernel
theorem dX11_shortOf_9 : decode cX11_shortOf 9 = .ok (.iload_n 2, 1) := by decide +kernel
theorem dX11_shortOf_10 : decode cX11_shortOf 10 = .ok (.iconst 1, 1) := by decide +kernel
theorem dX11_shortOf_11 : decode cX11_shortOf 11 = .ok (.iadd, 1) := by decide +kernel
theorem dX11_shortOf_12 : decode cX11_shortOf 12 = .ok (.istore 8, 2) := by decide +kernel
theorem dX11_shortOf_14 : decode cX11_shortOf 14 = .ok (.iload 8, 2) := by decide +kernel
theorem dX11_shortOf_16 : decode cX11_shortOf 16 = .ok (.iload_n 2, 1) := by decide +kernel
theorem dX11_shortOf_17 : decode cX11_shortOf 17 = .ok (.iload_n 3, 1) := by decide +kernel
theorem dX11_shortOf_18 : decode cX11_shortOf 18 = .ok (.iadd, 1) := by decide +kernel
theorem dX11_shortOf_19 : decode cX11_shortOf 19 = .ok (.if_icmp .gt 95, 3) := by decide +kernel
theorem dX11_shortOf_22 : decode cX11_shortOf 22 = .ok (.iload 8, 2) := by decide +kernel
theorem dX11_shortOf_24 : decode cX11_shortOf 24 = .ok (.bipush 100, 2) := by decide +kernel
theorem dX11_shortOf_26 : decode cX11_shortOf 26 = .ok (.if_icmp .ge 88, 3) := by decide +kernel
theorem dX11_shortOf_29 : decode cX11_shortOf 29 = .ok (.iconst 0, 1) := by decide +kernel
theorem dX11_shortOf_30 : decode cX11_shortOf 30 = .ok (.istore 9, 2) := by decide +kernel
theorem dX11_shortOf_32 : decode cX11_shortOf 32 = .ok (.iload 9, 2) := by decide +kernel
theorem dX11_shortOf_34 : decode cX11_shortOf 34 = .ok (.aload_n 0, 1) := by decide +kernel
theorem dX11_shortOf_35 : decode cX11_shortOf 35 = .ok (.getfield 126, 3) := by decide +kernel
theorem dX11_shortOf_38 : decode cX11_shortOf 38 = .ok (.if_icmp .ge 49, 3) := by decide +kernel
theorem dX11_shortOf_41 : decode cX11_shortOf 41 = .ok (.lload 6, 2) := by decide +kernel
theorem dX11_shortOf_43 : decode cX11_shortOf 43 = .ok (.aload_n 0, 1) := by decide +kernel
theorem dX11_shortOf_44 : decode cX11_shortOf 44 = .ok (.getfield 11, 3) := by decide +kernel
theorem dX11_shortOf_47 : decode cX11_shortOf 47 = .ok (.iload 9, 2) := by decide +kernel
theorem dX11_shortOf_49 : decode cX11_shortOf 49 = .ok (.iaload, 1) := by decide +kernel
theorem dX11_shortOf_50 : decode cX11_shortOf 50 = .ok (.ifCond .ne 27, 3) := by decide +kernel
theorem dX11_shortOf_53 : decode cX11_shortOf 53 = .ok (.aload_n 0, 1) := by decide +kernel
theorem dX11_shortOf_54 : decode cX11_shortOf 54 = .ok (.iload 9, 2) := by decide +kernel
theorem dX11_shortOf_56 : decode cX11_shortOf 56 = .ok (.bipush 100, 2) := by decide +kernel
theorem dX11_shortOf_58 : decode cX11_shortOf 58 = .ok (.iload 8, 2) := by decide +kernel
theorem dX11_shortOf_60 : decode cX11_shortOf 60 = .ok (.imul, 1) := by decide +kernel
theorem dX11_shortOf_61 : decode cX11_shortOf 61 = .ok (.invokevirtual 366, 3) := by decide +kernel
theorem dX11_shortOf_64 : decode cX11_shortOf 64 = .ok (.aload_n 0, 1) := by decide +kernel
theorem dX11_shortOf_65 : decode cX11_shortOf 65 = .ok (.iload 9, 2) := by decide +kernel
theorem dX11_shortOf_67 : decode cX11_shortOf 67 = .ok (.iload 8, 2) := by decide +kernel
theorem dX11_shortOf_69 : decode cX11_shortOf 69 = .ok (.invokevirtual 369, 3) := by decide +kernel
theorem dX11_shortOf_72 : decode cX11_shortOf 72 = .ok (.iadd, 1) := by decide +kernel
theorem dX11_shortOf_73 : decode cX11_shortOf 73 = .ok (.i2l, 1) := by decide +kernel
theorem dX11_shortOf_74 : decode cX11_shortOf 74 = .ok (.goto 4, 3) := by decide +kernel
theorem dX11_shortOf_77 : decode cX11_shortOf 77 = .ok (.lconst 0, 1) := by decide +kernel
theorem dX11_shortOf_78 : decode cX11_shortOf 78 = .ok (.ladd, 1) := by decide +kernel
theorem dX11_shortOf_79 : decode cX11_shortOf 79 = .ok (.lstore 6, 2) := by decide +kernel
theorem dX11_shortOf_81 : decode cX11_shortOf 81 = .ok (.iinc 9 1, 3) := by decide +kernel
theorem dX11_shortOf_84 : decode cX11_shortOf 84 = .ok (.goto (-52), 3) := by decide +kernel
theorem dX11_shortOf_87 : decode cX11_shortOf 87 = .ok (.lload 6, 2) := by decide +kernel
theorem dX11_shortOf_89 : decode cX11_shortOf 89 = .ok (.aload_n 0, 1) := by decide +kernel
theorem dX11_shortOf_90 : decode cX11_shortOf 90 = .ok (.iload 8, 2) := by decide +kernel
theorem dX11_shortOf_92 : decode cX11_shortOf 92 = .ok (.invokevirtual 423, 3) := by decide +kernel
theorem dX11_shortOf_95 : decode cX11_shortOf 95 = .ok (.ladd, 1) := by decide +kernel
theorem dX11_shortOf_96 : decode cX11_shortOf 96 = .ok (.lstore 6, 2) := by decide +kernel
theorem dX11_shortOf_98 : decode cX11_shortOf 98 = .ok (.lload 6, 2) := by decide +kernel
theorem dX11_shortOf_100 : decode cX11_shortOf 100 = .ok (.lconst 0, 1) := by decide +kernel
theorem dX11_shortOf_101 : decode cX11_shortOf 101 = .ok (.lcmp, 1) := by decide +kernel
theorem dX11_shortOf_102 : decode cX11_shortOf 102 = .ok (.ifCond .ge 6, 3) := by decide +kernel
theorem dX11_shortOf_105 : decode cX11_shortOf 105 = .ok (.iload 8, 2) := by decide +kernel
theorem dX11_shortOf_107 : decode cX11_shortOf 107 = .ok (.ireturn, 1) := by decide +kernel
theorem dX11_shortOf_108 : decode cX11_shortOf 108 = .ok (.iinc 8 1, 3) := by decide +kernel
theorem dX11_shortOf_111 : decode cX11_shortOf 111 = .ok (.goto (-97), 3) := by decide +kernel
theorem dX11_shortOf_114 : decode cX11_shortOf 114 = .ok (.bipush (-5), 2) := by decide +kernel
theorem dX11_shortOf_116 : decode cX11_shortOf 116 = .ok (.ireturn, 1) := by decide +kernel
set_option maxRecDepth 100000 in
theorem t_M_shortOf_J78 (hC : CX z ad x cX11_shortOf RX11 10 (some .int)) (hR : x.2.2.1 = rmk 623 0 0) (k_14 : MS → Int32 → Int32 → Int64 → Int32 → Option (Int32 × MS)) (hk_14 : ∀ (σ : MS) (a2 : Int32) (a3 : Int32) (a6 : Int64) (a8 : Int32), AT z x 10 (wM z τ) rI (eqA ad) 0 0 0 0 ad 14 [(0, .ref 0), (2, .int a2), (3, .int a3), (6, .long a6), (8, .int a8)] [] σ (k_14 σ a2 a3 a6 a8)) (k_32 : MS → Int32 → Int32 → Int64 → Int32 → Int32 → Option (Int32 × MS)) (hk_32 : ∀ (σ : MS) (a2 : Int32) (a3 : Int32) (a6 : Int64) (a8 : Int32) (a9 : Int32), AT z x 10 (wM z τ) rI (eqA ad) 0 0 0 0 ad 32 [(0, .ref 0), (2, .int a2), (3, .int a3), (6, .long a6), (8, .int a8), (9, .int a9)] [] σ (k_32 σ a2 a3 a6 a8 a9)) (σ : MS) (a2 : Int32) (a3 : Int32) (a8 : Int32) (a9 : Int32) (s0 : Int64) (s1 : Int64) : AT z x 10 (wM z τ) rI (eqA ad) 0 0 0 0 ad 78 [(0, .ref 0), (2, .int a2), (3, .int a3), (8, .int a8), (9, .int a9)] [.long s0, .long s1] σ (M_shortOf_J78 k_14 k_32 σ a2 a3 a8 a9 s0 s1) := by
  unfold M_shortOf_J78
  refine at_ladd hC dX11_shortOf_78 ?_
  refine at_lstore (lv' := [(6, .long (s1 + s0)), (0, .ref 0), (2, .int a2), (3, .int a3), (8, .int a8), (9, .int a9)]) hC dX11_shortOf_79 (by decide) rfl ?_
  refine at_iinc (j := 5) (v := a9 + 1) (lv' := [(9, .int (a9 + 1)), (6, .long (s1 + s0)), (0, .ref 0), (2, .int a2), (3, .int a3), (8, .int a8)]) hC dX11_shortOf_81 rfl rfl (by decide) rfl ?_
  refine at_goto (tgt := 32) hC dX11_shortOf_84 rfl ?_
  refine at_drop (lv' := [(0, .ref 0), (2, .int a2), (3, .int a3), (6, .long (s1 + s0)), (8, .int a8), (9, .int (a9 + 1))]) [2, 3, 4, 1, 5, 0] rfl ?_
  exact hk_32 σ a2 a3 (s1 + s0) a8 (a9 + 1)
set_option maxRecDepth 100000 in
theorem t_M_shortOf_L32 (hC : CX z ad x cX11_shortOf RX11 10 (some .int)) (hR : x.2.2.1 = rmk 623 0 0) (k_14 : MS → Int32 → Int32 → Int64 → Int32 → Option (Int32 × MS)) (hk_14 : ∀ (σ : MS) (a2 : Int32) (a3 : Int32) (a6 : Int64) (a8 : Int32), AT z x 10 (wM z τ) rI (eqA ad) 0 0 0 0 ad 14 [(0, .ref 0), (2, .int a2), (3, .int a3), (6, .long a6), (8, .int a8)] [] σ (k_14 σ a2 a3 a6 a8)) (n : Nat) (σ : MS) (a2 : Int32) (a3 : Int32) (a6 : Int64) (a8 : Int32) (a9 : Int32) : AT z x 10 (wM z τ) rI (eqA ad) 0 0 0 0 ad 32 [(0, .ref 0), (2, .int a2), (3, .int a3), (6, .long a6), (8, .int a8), (9, .int a9)] [] σ (M_shortOf_L32 k_14 n σ a2 a3 a6 a8 a9) := by
  revert σ a2 a3 a6 a8 a9
  show ∀ (σ : MS) (a2 : Int32) (a3 : Int32) (a6 : Int64) (a8 : Int32) (a9 : Int32), AT z x 10 (wM z τ) rI (eqA ad) 0 0 0 0 ad 32 [(0, .ref 0), (2, .int a2), (3, .int a3), (6, .long a6), (8, .int a8), (9, .int a9)] [] σ (M_shortOf_L32_r k_14 n σ a2 a3 a6 a8 a9)
  induction n with
  | zero => intro σ a2 a3 a6 a8 a9; exact at_none
  | succ n hk_32 =>
    intro σ a2 a3 a6 a8 a9
    unfold M_shortOf_L32_r
    refine at_iload (j := 5) hC rfl dX11_shortOf_32 ?_
    refine at_aload_n (j := 0) hC rfl rfl dX11_shortOf_34 ?_
    refine gf_X11_126 hC dX11_shortOf_35 ?_
    refine at_icmp_ge (tgt := 87) hC dX11_shortOf_38 rfl (fun _ => ?_) (fun _ => ?_)
    · refine at_lload (j := 3) hC rfl dX11_shortOf_87 ?_
      refine at_aload_n (j := 0) hC rfl rfl dX11_shortOf_89 ?_
      refine at_iload (j := 4) hC rfl dX11_shortOf_90 ?_
      refine at_callVJ hC hR lk_X11_423 (c_M_brings σ a8) dX11_shortOf_92 recX11 rfl rfl ⟨by decide, by decide⟩ (Nat.le_of_ble_eq_true rfl) ⟨Nat.le_refl 0, Nat.le_refl 0⟩ (fun r2 r2s _ => ?_)
      refine at_ladd hC dX11_shortOf_95 ?_
      refine at_lstore (lv' := [(6, .long (a6 + r2)), (0, .ref 0), (2, .int a2), (3, .int a3), (8, .int a8), (9, .int a9)]) hC dX11_shortOf_96 (by decide) rfl ?_
      refine at_lload (j := 0) hC rfl dX11_shortOf_98 ?_
      refine at_lconst hC lc_0 dX11_shortOf_100 ?_
      refine at_lcmp hC dX11_shortOf_101 ?_
      refine at_if_ge (tgt := 108) hC dX11_shortOf_102 rfl (fun _ => ?_) (fun _ => ?_)
      · refine at_iinc (j := 4) (v := a8 + 1) (lv' := [(8, .int (a8 + 1)), (6, .long (a6 + r2)), (0, .ref 0), (2, .int a2), (3, .int a3), (9, .int a9)]) hC dX11_shortOf_108 rfl rfl (by decide) rfl ?_
        refine at_goto (tgt := 14) hC dX11_shortOf_111 rfl ?_
        refine at_drop (lv' := [(0, .ref 0), (2, .int a2), (3, .int a3), (6, .long (a6 + r2)), (8, .int (a8 + 1))]) [2, 3, 4, 1, 0] rfl ?_
        exact hk_14 r2s a2 a3 (a6 + r2) (a8 + 1)
      · refine at_iload (j := 4) hC rfl dX11_shortOf_105 ?_
        exact at_iret (F := eqA ad) (ra := rI) hC dX11_shortOf_107 rfl (Nat.le_refl 0) (Nat.le_refl 0) rfl
    · refine at_lload (j := 3) hC rfl dX11_shortOf_41 ?_
      refine at_aload_n (j := 0) hC rfl rfl dX11_shortOf_43 ?_
      refine gf_X11_11 hC dX11_shortOf_44 ?_
      refine at_iload (j := 5) hC rfl dX11_shortOf_47 ?_
      refine at_iald hC 1 dX11_shortOf_49 cl_1 (fun v3 => ?_)
      refine at_if_ne (tgt := 77) hC dX11_shortOf_50 rfl (fun _ => ?_) (fun _ => ?_)
      · refine at_lconst hC lc_0 dX11_shortOf_77 ?_
        refine at_drop (lv' := [(0, .ref 0), (2, .int a2), (3, .int a3), (8, .int a8), (9, .int a9)]) [0, 1, 2, 4, 5] rfl ?_
        exact t_M_shortOf_J78 hC hR k_14 hk_14 (M_shortOf_L32_r k_14 n) hk_32 σ a2 a3 a8 a9 0 a6
      · refine at_aload_n (j := 0) hC rfl rfl dX11_shortOf_53 ?_
        refine at_iload (j := 5) hC rfl dX11_shortOf_54 ?_
        refine at_bipush hC bi_100 dX11_shortOf_56 ?_
        refine at_iload (j := 4) hC rfl dX11_shortOf_58 ?_
        refine at_imul hC dX11_shortOf_60 ?_
        refine at_callVI hC hR lk_X11_366 (c_M_dueOf σ a9 (100 * a8)) dX11_shortOf_61 recX11 rfl rfl ⟨by decide, by decide⟩ (Nat.le_of_ble_eq_true rfl) ⟨Nat.le_refl 0, Nat.le_refl 0⟩ (fun r4 r4s _ => ?_)
        refine at_aload_n (j := 0) hC rfl rfl dX11_shortOf_64 ?_
        refine at_iload (j := 5) hC rfl dX11_shortOf_65 ?_
        refine at_iload (j := 4) hC rfl dX11_shortOf_67 ?_
        refine at_callVI hC hR lk_X11_369 (c_M_taxOf r4s a9 a8) dX11_shortOf_69 recX11 rfl rfl ⟨by decide, by decide⟩ (Nat.le_of_ble_eq_true rfl) ⟨Nat.le_refl 0, Nat.le_refl 0⟩ (fun r5 r5s _ => ?_)
        refine at_iadd hC dX11_shortOf_72 ?_
        refine at_i2l hC dX11_shortOf_73 ?_
        refine at_goto (tgt := 78) hC dX11_shortOf_74 rfl ?_
        refine at_drop (lv' := [(0, .ref 0), (2, .int a2), (3, .int a3), (8, .int a8), (9, .int a9)]) [0, 1, 2, 4, 5] rfl ?_
        exact t_M_shortOf_J78 hC hR k_14 hk_14 (M_shortOf_L32_r k_14 n) hk_32 r5s a2 a3 a8 a9 ((r4 + r5).toInt64) a6
set_option maxRecDepth 100000 in
theorem t_M_shortOf_L14 (hC : CX z ad x cX11_shortOf RX11 10 (some .int)) (hR : x.2.2.1 = rmk 623 0 0) (n : Nat) (σ : MS) (a2 : Int32) (a3 : Int32) (a6 : Int64) (a8 : Int32) : AT z x 10 (wM z τ) rI (eqA ad) 0 0 0 0 ad 14 [(0, .ref 0), (2, .int a2), (3, .int a3), (6, .long a6), (8, .int a8)] [] σ (M_shortOf_L14 n σ a2 a3 a6 a8) := by
  revert σ a2 a3 a6 a8
  show ∀ (σ : MS) (a2 : Int32) (a3 : Int32) (a6 : Int64) (a8 : Int32), AT z x 10 (wM z τ) rI (eqA ad) 0 0 0 0 ad 14 [(0, .ref 0), (2, .int a2), (3, .int a3), (6, .long a6), (8, .int a8)] [] σ (M_shortOf_L14_r n σ a2 a3 a6 a8)
  induction n with
  | zero => intro σ a2 a3 a6 a8; exact at_none
  | succ n hk_14 =>
    intro σ a2 a3 a6 a8
    unfold M_shortOf_L14_r
    refine at_iload (j := 4) hC rfl dX11_shortOf_14 ?_
    refine at_iload_n (j := 1) hC rfl rfl dX11_shortOf_16 ?_
    refine at_iload_n (j := 2) hC rfl rfl dX11_shortOf_17 ?_
    refine at_iadd hC dX11_shortOf_18 ?_
    refine at_icmp_gt (tgt := 114) hC dX11_shortOf_19 rfl (fun _ => ?_) (fun _ => ?_)
    · refine at_bipush hC bi_m5 dX11_shortOf_114 ?_
      exact at_iret (F := eqA ad) (ra := rI) hC dX11_shortOf_116 rfl (Nat.le_refl 0) (Nat.le_refl 0) rfl
    · refine at_iload (j := 4) hC rfl dX11_shortOf_22 ?_
      refine at_bipush hC bi_100 dX11_shortOf_24 ?_
      refine at_icmp_ge (tgt := 114) hC dX11_shortOf_26 rfl (fun _ => ?_) (fun _ => ?_)
      · refine at_bipush hC bi_m5 dX11_shortOf_114 ?_
        exact at_iret (F := eqA ad) (ra := rI) hC dX11_shortOf_116 rfl (Nat.le_refl 0) (Nat.le_refl 0) rfl
      · refine at_iconst hC ic_0 dX11_shortOf_29 ?_
        refine at_istore (lv' := [(9, .int 0), (0, .ref 0), (2, .int a2), (3, .int a3), (6, .long a6), (8, .int a8)]) hC dX11_shortOf_30 (by decide) rfl ?_
        refine at_drop (lv' := [(0, .ref 0), (2, .int a2), (3, .int a3), (6, .long a6), (8, .int a8), (9, .int 0)]) [1, 2, 3, 4, 5, 0] rfl ?_
        exact t_M_shortOf_L32 hC hR (M_shortOf_L14_r n) hk_14 100000 σ a2 a3 a6 a8 0
set_option maxRecDepth 100000 in
theorem c_M_shortOf (σ : MS) (p0 : Int32) (p1 : Int32) (p2 : Int32) (p3 : Int64) : Ct z (wM z τ) rI eqA yX11_shortOf cX11_shortOf 10 (some .int) 623 0 0 [.ref 0, .int p0, .int p1, .int p2, .long p3] σ (M_shortOf σ p0 p1 p2 p3) := by
  refine Ct.of (by decide) (Nat.le_of_ble_eq_true rfl) (fun ad x hC hR _ => ?_)
  show AT z x 10 (wM z τ) rI (eqA ad) 0 0 0 0 ad 0 [(0, .ref 0), (1, .int p0), (2, .int p1), (3, .int p2), (4, .long p3)] [] σ (M_shortOf σ p0 p1 p2 p3)
  unfold M_shortOf
  refine at_aload_n (j := 0) hC rfl rfl dX11_shortOf_0 ?_
  refine at_iload_n (j := 1) hC rfl rfl dX11_shortOf_1 ?_
  refine at_callVU hC hR lk_X11_447 (c_M_looksWith σ p0) dX11_shortOf_2 recX11 rfl rfl ⟨by decide, by decide⟩ (Nat.le_of_ble_eq_true rfl) ⟨Nat.le_refl 0, Nat.le_refl 0⟩ (fun r1 r1s _ => ?_)
  refine at_lload (j := 4) hC rfl dX11_shortOf_5 ?_
  refine at_lstore (lv' := [(6, .long p3), (0, .ref 0), (1, .int p0), (2, .int p1), (3, .int p2), (4, .long p3)]) hC dX11_shortOf_7 (by decide) rfl ?_
  refine at_iload_n (j := 3) hC rfl rfl dX11_shortOf_9 ?_
  refine at_iconst hC ic_1 dX11_shortOf_10 ?_
  refine at_iadd hC dX11_shortOf_11 ?_
  refine at_istore (lv' := [(8, .int (p1 + 1)), (6, .long p3), (0, .ref 0), (1, .int p0), (2, .int p1), (3, .int p2), (4, .long p3)]) hC dX11_shortOf_12 (by decide) rfl ?_
  refine at_drop (lv' := [(0, .ref 0), (2, .int p1), (3, .int p2), (6, .long p3), (8, .int (p1 + 1))]) [2, 4, 5, 1, 0] rfl ?_
  exact t_M_shortOf_L14 hC hR 100000 r1s p1 p2 p3 (p1 + 1)
theorem dX11_shortBy_0 : decode cX11_shortBy 0 = .ok (.iload_n 1, 1) := by decide +kernel
theorem dX11_shortBy_1 : decode cX11_shortBy 1 = .ok (.iconst (-1), 1) := by decide +kernel
theorem dX11_shortBy_2 : decode cX11_shortBy 2 = .ok (.aload_n 0, 1) := by decide +kernel
theorem dX11_shortBy_3 : decode cX11_shortBy 3 = .ok (.getfield 441, 3) := by decide +kernel
theorem dX11_shortBy_6 : decode cX11_shortBy 6 = .ok (.iconst 1, 1) := by decide +kernel
theorem dX11_shortBy_7 : decode cX11_shortBy 7 = .ok (.isub, 1) := by decide +kernel
theorem dX11_shortBy_8 : decode cX11_shortBy 8 = .ok (.invokestatic 129, 3) := by decide +kernel
theorem dX11_shortBy_11 : decode cX11_shortBy 11 = .ok (.ifCond .ne 5, 3) := by decide +kernel
theorem dX11_shortBy_14 : decode cX11_shortBy 14 = .ok (.iconst (-1), 1) := by decide +kernel
theorem dX11_shortBy_15 : decode cX11_shortBy 15 = .ok (.ireturn, 1) := by decide +kernel
theorem dX11_shortBy_16 : decode cX11_shortBy 16 = .ok (.iload_n 2, 1) := by decide +kernel
theorem dX11_shortBy_17 : decode cX11_shortBy 17 = .ok (.invokestatic 379, 3) := by decide +kernel
theorem dX11_shortBy_20 : decode cX11_shortBy 20 = .ok (.ifCond .eq 13, 3) := by decide +kernel
theorem dX11_shortBy_23 : decode cX11_shortBy 23 = .ok (.iload_n 3, 1) := by decide +kernel
theorem dX11_shortBy_24 : decode cX11_shortBy 24 = .ok (.iconst 1, 1) := by decide +kernel
theorem dX11_shortBy_25 : decode cX11_shortBy 25 = .ok (.bipush 20, 2) := by decide +kernel
theorem dX11_shortBy_27 : decode cX11_shortBy 27 = .ok (.invokestatic 129, 3) := by decide +kernel
theorem dX11_shortBy_30 : decode cX11_shortBy 30 = .ok (.ifCond .ne 6, 3) := by decide +kernel
theorem dX11_shortBy_33 : decode cX11_shortBy 33 = .ok (.bipush (-2), 2) := by decide +kernel
theorem dX11_shortBy_35 : decode cX11_shortBy 35 = .ok (.ireturn, 1) := by decide +kernel
theorem dX11_shortBy_36 : decode cX11_shortBy 36 = .ok (.aload_n 0, 1) := by decide +kernel
theorem dX11_shortBy_37 : decode cX11_shortBy 37 = .ok (.iconst (-1), 1) := by decide +kernel
theorem dX11_shortBy_38 : decode cX11_shortBy 38 = .ok (.invokevirtual 143, 3) := by decide +kernel
theorem dX11_shortBy_41 : decode cX11_shortBy 41 = .ok (.aload_n 0, 1) := by decide +kernel
theorem dX11_shortBy_42 : decode cX11_shortBy 42 = .ok (.iload_n 1, 1) := by decide +kernel
theorem dX11_shortBy_43 : decode cX11_shortBy 43 = .ok (.iload_n 2, 1) := by decide +kernel
theorem dX11_shortBy_44 : decode cX11_shortBy 44 = .ok (.iload_n 3, 1) := by decide +kernel
theorem dX11_shortBy_45 : decode cX11_shortBy 45 = .ok (.aload_n 0, 1) := by decide +kernel
theorem dX11_shortBy_46 : decode cX11_shortBy 46 = .ok (.iload_n 2, 1) := by decide +kernel
theorem dX11_shortBy_47 : decode cX11_shortBy 47 = .ok (.invokevirtual 426, 3) := by decide +kernel
theorem dX11_shortBy_50 : decode cX11_shortBy 50 = .ok (.invokevirtual 450, 3) := by decide +kernel
theorem dX11_shortBy_53 : decode cX11_shortBy 53 = .ok (.ireturn, 1) := by decide +kernel
set_option maxRecDepth 100000 in
theorem c_M_shortBy (σ : MS) (p0 : Int32) (p1 : Int32) (p2 : Int32) : Ct z (wM z τ) rI eqA yX11_shortBy cX11_shortBy 4 (some .int) 624 0 0 [.ref 0, .int p0, .int p1, .int p2] σ (M_shortBy σ p0 p1 p2) := by
  refine Ct.of (by decide) (Nat.le_of_ble_eq_true rfl) (fun ad x hC hR _ => ?_)
  show AT z x 4 (wM z τ) rI (eqA ad) 0 0 0 0 ad 0 [(0, .ref 0), (1, .int p0), (2, .int p1), (3, .int p2)] [] σ (M_shortBy σ p0 p1 p2)
  unfold M_shortBy
  refine at_iload_n (j := 1) hC rfl rfl dX11_shortBy_0 ?_
  refine at_iconst hC ic_m1 dX11_shortBy_1 ?_
  refine at_aload_n (j := 0) hC rfl rfl dX11_shortBy_2 ?_
  refine gf_X11_441 hC dX11_shortBy_3 ?_
  refine at_iconst hC ic_1 dX11_shortBy_6 ?_
  refine at_isub hC dX11_shortBy_7 ?_
  refine at_callSpI hC hR lk_X11_129 (c_M_in σ p0 (-1) ((σ.1 35) - 1)) dX11_shortBy_8 rfl rfl ⟨by decide, by decide⟩ (Nat.le_of_ble_eq_true rfl) ⟨Nat.le_refl 0, Nat.le_refl 0⟩ (fun r1 _ => ?_)
  refine at_if_ne (tgt := 16) hC dX11_shortBy_11 rfl (fun _ => ?_) (fun _ => ?_)
  · refine at_iload_n (j := 2) hC rfl rfl dX11_shortBy_16 ?_
    refine at_callSpI hC hR lk_X11_379 (c_M_isYear σ p1) dX11_shortBy_17 rfl rfl ⟨by decide, by decide⟩ (Nat.le_of_ble_eq_true rfl) ⟨Nat.le_refl 0, Nat.le_refl 0⟩ (fun r2 _ => ?_)
    refine at_if_eq (tgt := 33) hC dX11_shortBy_20 rfl (fun _ => ?_) (fun _ => ?_)
    · refine at_bipush hC bi_m2 dX11_shortBy_33 ?_
      exact at_iret (F := eqA ad) (ra := rI) hC dX11_shortBy_35 rfl (Nat.le_refl 0) (Nat.le_refl 0) rfl
    · refine at_iload_n (j := 3) hC rfl rfl dX11_shortBy_23 ?_
      refine at_iconst hC ic_1 dX11_shortBy_24 ?_
      refine at_bipush hC bi_20 dX11_shortBy_25 ?_
      refine at_callSpI hC hR lk_X11_129 (c_M_in σ p2 1 20) dX11_shortBy_27 rfl rfl ⟨by decide, by decide⟩ (Nat.le_of_ble_eq_true rfl) ⟨Nat.le_refl 0, Nat.le_refl 0⟩ (fun r3 _ => ?_)
      refine at_if_ne (tgt := 36) hC dX11_shortBy_30 rfl (fun _ => ?_) (fun _ => ?_)
      · refine at_aload_n (j := 0) hC rfl rfl dX11_shortBy_36 ?_
        refine at_iconst hC ic_m1 dX11_shortBy_37 ?_
        refine at_callVU hC hR lk_X11_143 (c_M_looks σ (-1)) dX11_shortBy_38 recX11 rfl rfl ⟨by decide, by decide⟩ (Nat.le_of_ble_eq_true rfl) ⟨Nat.le_refl 0, Nat.le_refl 0⟩ (fun r4 r4s _ => ?_)
        refine at_aload_n (j := 0) hC rfl rfl dX11_shortBy_41 ?_
        refine at_iload_n (j := 1) hC rfl rfl dX11_shortBy_42 ?_
        refine at_iload_n (j := 2) hC rfl rfl dX11_shortBy_43 ?_
        refine at_iload_n (j := 3) hC rfl rfl dX11_shortBy_44 ?_
        refine at_aload_n (j := 0) hC rfl rfl dX11_shortBy_45 ?_
        refine at_iload_n (j := 2) hC rfl rfl dX11_shortBy_46 ?_
        refine at_callVJ hC hR lk_X11_426 (c_M_chestBehind r4s p1) dX11_shortBy_47 recX11 rfl rfl ⟨by decide, by decide⟩ (Nat.le_of_ble_eq_true rfl) ⟨Nat.le_refl 0, Nat.le_refl 0⟩ (fun r5 r5s _ => ?_)
        refine at_callVI hC hR lk_X11_450 (c_M_shortOf r5s p0 p1 p2 r5) dX11_shortBy_50 recX11 rfl rfl ⟨by decide, by decide⟩ (Nat.le_of_ble_eq_true rfl) ⟨Nat.le_refl 0, Nat.le_refl 0⟩ (fun r6 r6s _ => ?_)
        exact at_iret (F := eqA ad) (ra := rI) hC dX11_shortBy_53 rfl (Nat.le_refl 0) (Nat.le_refl 0) rfl
      · refine at_bipush hC bi_m2 dX11_shortBy_33 ?_
        exact at_iret (F := eqA ad) (ra := rI) hC dX11_shortBy_35 rfl (Nat.le_refl 0) (Nat.le_refl 0) rfl
  · refine at_iconst hC ic_m1 dX11_shortBy_14 ?_
    exact at_iret (F := eqA ad) (ra := rI) hC dX11_shortBy_15 rfl (Nat.le_refl 0) (Nat.le_refl 0) rfl
theorem dX11_step_0 : decode cX11_step 0 = .ok (.iload_n 1, 1) := by decide +kernel
theorem dX11_step_1 : decode cX11_step 1 = .ok (.ifCond .eq 15, 3) := by decide +kernel
theorem dX11_step_4 : decode cX11_step 4 = .ok (.iload_n 1, 1) := by decide +kernel
theorem dX11_step_5 : decode cX11_step 5 = .ok (.iconst 1, 1) := by decide +kernel
theorem dX11_step_6 : decode cX11_step 6 = .ok (.if_icmp .eq 10, 3) := by decide +kernel
theorem dX11_step_9 : decode cX11_step 9 = .ok (.iload_n 1, 1) := by decide +kernel
theorem dX11_step_10 : decode cX11_step 10 = .ok (.iconst 3, 1) := by decide +kernel
theorem dX11_step_11 : decode cX11_step 11 = .ok (.if_icmp .eq 5, 3) := by decide +kernel
theorem dX11_step_14 : decode cX11_step 14 = .ok (.iconst (-1), 1) := by decide +kernel
theorem dX11_step_15 : decode cX11_step 15 = .ok (.ireturn, 1) := by decide +kernel
theorem dX11_step_16 : decode cX11_step 16 = .ok (.iload_n 2, 1) := by decide +kernel
theorem dX11_step_17 : decode cX11_step 17 = .ok (.iconst 0, 1) := by decide +kernel
theorem dX11_step_18 : decode cX11_step 18 = .ok (.sipush 300, 3) := by decide +kernel
theorem dX11_step_21 : decode cX11_step 21 = .ok (.invokestatic 129, 3) := by decide +kernel
theorem dX11_step_24 : decode cX11_step 24 = .ok (.ifCond .ne 6, 3) := by decide +kernel
theorem dX11_step_27 : decode cX11_step 27 = .ok (.bipush (-2), 2) := by decide +kernel
theorem dX11_step_29 : decode cX11_step 29 = .ok (.ireturn, 1) := by decide +kernel
theorem dX11_step_30 : decode cX11_step 30 = .ok (.aload_n 0, 1) := by decide +kernel
theorem dX11_step_31 : decode cX11_step 31 = .ok (.getfield 444, 3) := by decide +kernel
theorem dX11_step_34 : decode cX11_step 34 = .ok (.iconst 4, 1) := by decide +kernel
theorem dX11_step_35 : decode cX11_step 35 = .ok (.if_icmp .ne 6, 3) := by decide +kernel
theorem dX11_step_38 : decode cX11_step 38 = .ok (.bipush (-4), 2) := by decide +kernel
theorem dX11_step_40 : decode cX11_step 40 = .ok (.ireturn, 1) := by decide +kernel
theorem dX11_step_41 : decode cX11_step 41 = .ok (.aload_n 0, 1) := by decide +kernel
theorem dX11_step_42 : decode cX11_step 42 = .ok (.getfield 101, 3) := by decide +kernel
theorem dX11_step_45 : decode cX11_step 45 = .ok (.aload_n 0, 1) := by decide +kernel
theorem dX11_step_46 : decode cX11_step 46 = .ok (.getfield 444, 3) := by decide +kernel
theorem dX11_step_49 : decode cX11_step 49 = .ok (.iload_n 1, 1) := by decide +kernel
theorem dX11_step_50 : decode cX11_step 50 = .ok (.iastore, 1) := by decide +kernel
theorem dX11_step_51 : decode cX11_step 51 = .ok (.aload_n 0, 1) := by decide +kernel
theorem dX11_step_52 : decode cX11_step 52 = .ok (.getfield 104, 3) := by decide +kernel
theorem dX11_step_55 : decode cX11_step 55 = .ok (.aload_n 0, 1) := by decide +kernel
theorem dX11_step_56 : decode cX11_step 56 = .ok (.getfield 444, 3) := by decide +kernel
theorem dX11_step_59 : decode cX11_step 59 = .ok (.iload_n 2, 1) := by decide +kernel
theorem dX11_step_60 : decode cX11_step 60 = .ok (.iastore, 1) := by decide +kernel
theorem dX11_step_61 : decode cX11_step 61 = .ok (.aload_n 0, 1) := by decide +kernel
theorem dX11_step_62 : decode cX11_step 62 = .ok (.dup, 1) := by decide +kernel
theorem dX11_step_63 : decode cX11_step 63 = .ok (.getfield 444, 3) := by decide +kernel
theorem dX11_step_66 : decode cX11_step 66 = .ok (.iconst 1, 1) := by decide +kernel
theorem dX11_step_67 : decode cX11_step 67 = .ok (.iadd, 1) := by decide +kernel
theorem dX11_step_68 : decode cX11_step 68 = .ok (.putfield 444, 3) := by decide +kernel
theorem dX11_step_71 : decode cX11_step 71 = .ok (.aload_n 0, 1) := by decide +kernel
theorem dX11_step_72 : decode cX11_step 72 = .ok (.getfield 444, 3) := by decide +kernel
theorem dX11_step_75 : decode cX11_step 75 = .ok (.iconst 1, 1) := by decide +kernel
theorem dX11_step_76 : decode cX11_step 76 = .ok (.isub, 1) := by decide +kernel
theorem dX11_step_77 : decode cX11_step 77 = .ok (.ireturn, 1) := by decide +kernel
set_option maxRecDepth 100000 in
theorem t_M_step_J16 (hC : CX z ad x cX11_step RX11 3 (some .int)) (hR : x.2.2.1 = rmk 2 0 0) (σ : MS) (a1 : Int32) (a2 : Int32) : AT z x 3 (wM z τ) rI (eqA ad) 0 0 0 0 ad 16 [(0, .ref 0), (1, .int a1), (2, .int a2)] [] σ (M_step_J16 σ a1 a2) := by
  unfold M_step_J16
  refine at_iload_n (j := 2) hC rfl rfl dX11_step_16 ?_
  refine at_iconst hC ic_0 dX11_step_17 ?_
  refine at_sipush hC si_300 dX11_step_18 ?_
  refine at_callSpI hC hR lk_X11_129 (c_M_in σ a2 0 300) dX11_step_21 rfl rfl ⟨by decide, by decide⟩ (Nat.le_of_ble_eq_true rfl) ⟨Nat.le_refl 0, Nat.le_refl 0⟩ (fun r1 _ => ?_)
  refine at_if_ne (tgt := 30) hC dX11_step_24 rfl (fun _ => ?_) (fun _ => ?_)
  · refine at_aload_n (j := 0) hC rfl rfl dX11_step_30 ?_
    refine gf_X11_444 hC dX11_step_31 ?_
    refine at_iconst hC ic_4 dX11_step_34 ?_
    refine at_icmp_ne (tgt := 41) hC dX11_step_35 rfl (fun _ => ?_) (fun _ => ?_)
    · refine at_aload_n (j := 0) hC rfl rfl dX11_step_41 ?_
      refine gf_X11_101 hC dX11_step_42 ?_
      refine at_aload_n (j := 0) hC rfl rfl dX11_step_45 ?_
      refine gf_X11_444 hC dX11_step_46 ?_
      refine at_iload_n (j := 1) hC rfl rfl dX11_step_49 ?_
      refine at_iast hC 29 dX11_step_50 cl_29 st_29 ?_
      refine at_aload_n (j := 0) hC rfl rfl dX11_step_51 ?_
      refine gf_X11_104 hC dX11_step_52 ?_
      refine at_aload_n (j := 0) hC rfl rfl dX11_step_55 ?_
      refine gf_X11_444 hC dX11_step_56 ?_
      refine at_iload_n (j := 2) hC rfl rfl dX11_step_59 ?_
      refine at_iast hC 30 dX11_step_60 cl_30 st_30 ?_
      refine at_aload_n (j := 0) hC rfl rfl dX11_step_61 ?_
      refine at_dup hC rfl dX11_step_62 ?_
      refine gf_X11_444 hC dX11_step_63 ?_
      refine at_iconst hC ic_1 dX11_step_66 ?_
      refine at_iadd hC dX11_step_67 ?_
      refine pf_X11_444 hC dX11_step_68 ?_
      refine at_aload_n (j := 0) hC rfl rfl dX11_step_71 ?_
      refine gf_X11_444 hC dX11_step_72 ?_
      refine at_iconst hC ic_1 dX11_step_75 ?_
      refine at_isub hC dX11_step_76 ?_
      exact at_iret (F := eqA ad) (ra := rI) hC dX11_step_77 rfl (Nat.le_refl 0) (Nat.le_refl 0) rfl
    · refine at_bipush hC bi_m4 dX11_step_38 ?_
      exact at_iret (F := eqA ad) (ra := rI) hC dX11_step_40 rfl (Nat.le_refl 0) (Nat.le_refl 0) rfl
  · refine at_bipush hC bi_m2 dX11_step_27 ?_
    exact at_iret (F := eqA ad) (ra := rI) hC dX11_step_29 rfl (Nat.le_refl 0) (Nat.le_refl 0) rfl
set_option maxRecDepth 100000 in
theorem c_M_step (σ : MS) (p0 : Int32) (p1 : Int32) : Ct z (wM z τ) rI eqA yX11_step cX11_step 3 (some .int) 2 0 0 [.ref 0, .int p0, .int p1] σ (M_step σ p0 p1) := by
  refine Ct.of (by decide) (Nat.le_of_ble_eq_true rfl) (fun ad x hC hR _ => ?_)
  show AT z x 3 (wM z τ) rI (eqA ad) 0 0 0 0 ad 0 [(0, .ref 0), (1, .int p0), (2, .int p1)] [] σ (M_step σ p0 p1)
  unfold M_step
  refine at_iload_n (j := 1) hC rfl rfl dX11_step_0 ?_
  refine at_if_eq (tgt := 16) hC dX11_step_1 rfl (fun _ => ?_) (fun _ => ?_)
  · exact t_M_step_J16 hC hR σ p0 p1
  · refine at_iload_n (j := 1) hC rfl rfl dX11_step_4 ?_
    refine at_iconst hC ic_1 dX11_step_5 ?_
    refine at_icmp_eq (tgt := 16) hC dX11_step_6 rfl (fun _ => ?_) (fun _ => ?_)
    · exact t_M_step_J16 hC hR σ p0 p1
    · refine at_iload_n (j := 1) hC rfl rfl dX11_step_9 ?_
      refine at_iconst hC ic_3 dX11_step_10 ?_
      refine at_icmp_eq (tgt := 16) hC dX11_step_11 rfl (fun _ => ?_) (fun _ => ?_)
      · exact t_M_step_J16 hC hR σ p0 p1
      · refine at_iconst hC ic_m1 dX11_step_14 ?_
        exact at_iret (F := eqA ad) (ra := rI) hC dX11_step_15 rfl (Nat.le_refl 0) (Nat.le_refl 0) rfl
theorem dX11_isSet_0 : decode cX11_isSet 0 = .ok (.iconst 0, 1) := by decide +kernel
theorem dX11_isSet_1 : decode cX11_isSet 1 = .ok (.istore_n 2, 1) := by decide +kernel
theorem dX11_isSet_2 : decode cX11_isSet 2 = .ok (.iconst 0, 1) := by decide +kernel
theorem dX11_isSet_3 : decode cX11_isSet 3 = .ok (.istore_n 3, 1) := by decide +kernel
theorem dX11_isSet_4 : decode cX11_isSet 4 = .ok (.iload_n 3, 1) := by decide +kernel
theorem dX11_isSet_5 : decode cX11_isSet 5 = .ok (.aload_n 0, 1) := by decide +kernel
theorem dX11_isSet_6 : decode cX11_isSet 6 = .ok (.getfield 444, 3) := by decide +kernel
theorem dX11_isSet_9 : decode cX11_isSet 9 = .ok (.if_icmp .ge 45, 3) := by decide +kernel
theorem dX11_isSet_12 : decode cX11_isSet 12 = .ok (.iload_n 1, 1) := by decide +kernel
theorem dX11_isSet_13 : decode cX11_isSet 13 = .ok (.iload_n 3, 1) := by decide +kernel
theorem dX11_isSet_14 : decode cX11_isSet 14 = .ok (.ishr, 1) := by decide +kernel
theorem dX11_isSet_15 : decode cX11_isSet 15 = .ok (.iconst 1, 1) := by decide +kernel
theorem dX11_isSet_16 : decode cX11_isSet 16 = .ok (.iand, 1) := by decide +kernel
theorem dX11_isSet_17 : decode cX11_isSet 17 = .ok (.iconst 1, 1) := by decide +kernel
theorem dX11_isSet_18 : decode cX11_isSet 18 = .ok (.if_icmp .ne 30, 3) := by decide +kernel
theorem dX11_isSet_21 : decode cX11_isSet 21 = .ok (.iload_n 2, 1) := by decide +kernel
theorem dX11_isSet_22 : decode cX11_isSet 22 = .ok (.aload_n 0, 1) := by decide +kernel
theorem dX11_isSet_23 : decode cX11_isSet 23 = .ok (.getfield 101, 3) := by decide +kernel
theorem dX11_isSet_26 : decode cX11_isSet 26 = .ok (.iload_n 3, 1) := by decide +kernel
theorem dX11_isSet_27 : decode cX11_isSet 27 = .ok (.iaload, 1) := by decide +kernel
theorem dX11_isSet_28 : decode cX11_isSet 28 = .ok (.ishr, 1) := by decide +kernel
theorem dX11_isSet_29 : decode cX11_isSet 29 = .ok (.iconst 1, 1) := by decide +kernel
theorem dX11_isSet_30 : decode cX11_isSet 30 = .ok (.iand, 1) := by decide +kernel
theorem dX11_isSet_31 : decode cX11_isSet 31 = .ok (.iconst 1, 1) := by decide +kernel
theorem dX11_isSet_32 : decode cX11_isSet 32 = .ok (.if_icmp .ne 5, 3) := by decide +kernel
theorem dX11_isSet_35 : decode cX11_isSet 35 = .ok (.iconst 0, 1) := by decide +kernel
theorem dX11_isSet_36 : decode cX11_isSet 36 = .ok (.ireturn, 1) := by decide +kernel
theorem dX11_isSet_37 : decode cX11_isSet 37 = .ok (.iload_n 2, 1) := by decide +kernel
theorem dX11_isSet_38 : decode cX11_isSet 38 = .ok (.iconst 1, 1) := by decide +kernel
theorem dX11_isSet_39 : decode cX11_isSet 39 = .ok (.aload_n 0, 1) := by decide +kernel
theorem dX11_isSet_40 : decode cX11_isSet 40 = .ok (.getfield 101, 3) := by decide +kernel
theorem dX11_isSet_43 : decode cX11_isSet 43 = .ok (.iload_n 3, 1) := by decide +kernel
theorem dX11_isSet_44 : decode cX11_isSet 44 = .ok (.iaload, 1) := by decide +kernel
theorem dX11_isSet_45 : decode cX11_isSet 45 = .ok (.ishl, 1) := by decide +kernel
theorem dX11_isSet_46 : decode cX11_isSet 46 = .ok (.ior, 1) := by decide +kernel
theorem dX11_isSet_47 : decode cX11_isSet 47 = .ok (.istore_n 2, 1) := by decide +kernel
theorem dX11_isSet_48 : decode cX11_isSet 48 = .ok (.iinc 3 1, 3) := by decide +kernel
theorem dX11_isSet_51 : decode cX11_isSet 51 = .ok (.goto (-47), 3) := by decide +kernel
theorem dX11_isSet_54 : decode cX11_isSet 54 = .ok (.iconst 1, 1) := by decide +kernel
theorem dX11_isSet_55 : decode cX11_isSet 55 = .ok (.ireturn, 1) := by decide +kernel
set_option maxRecDepth 100000 in
theorem t_M_isSet_J48 (hC : CX z ad x cX11_isSet RX11 4 (some .boolean)) (hR : x.2.2.1 = rmk 1 0 0) (σ : MS) (k_4 : Int32 → Int32 → Int32 → Option Int32) (hk_4 : ∀ (a1 : Int32) (a2 : Int32) (a3 : Int32), AT z x 4 (wM z τ) rI (eqA ad) 0 0 0 0 ad 4 [(0, .ref 0), (1, .int a1), (2, .int a2), (3, .int a3)] [] σ ((k_4 a1 a2 a3).map fun r => (r, σ))) (a1 : Int32) (a2 : Int32) (a3 : Int32) : AT z x 4 (wM z τ) rI (eqA ad) 0 0 0 0 ad 48 [(0, .ref 0), (1, .int a1), (2, .int a2), (3, .int a3)] [] σ ((M_isSet_J48 k_4 σ a1 a2 a3).map fun r => (r, σ)) := by
  unfold M_isSet_J48
  refine at_iinc (j := 3) (v := a3 + 1) (lv' := [(3, .int (a3 + 1)), (0, .ref 0), (1, .int a1), (2, .int a2)]) hC dX11_isSet_48 rfl rfl (by decide) rfl ?_
  refine at_goto (tgt := 4) hC dX11_isSet_51 rfl ?_
  refine at_drop (lv' := [(0, .ref 0), (1, .int a1), (2, .int a2), (3, .int (a3 + 1))]) [1, 2, 3, 0] rfl ?_
  exact hk_4 a1 a2 (a3 + 1)
set_option maxRecDepth 100000 in
theorem t_M_isSet_L4 (hC : CX z ad x cX11_isSet RX11 4 (some .boolean)) (hR : x.2.2.1 = rmk 1 0 0) (σ : MS) (n : Nat) (a1 : Int32) (a2 : Int32) (a3 : Int32) : AT z x 4 (wM z τ) rI (eqA ad) 0 0 0 0 ad 4 [(0, .ref 0), (1, .int a1), (2, .int a2), (3, .int a3)] [] σ ((M_isSet_L4 n σ a1 a2 a3).map fun r => (r, σ)) := by
  revert a1 a2 a3
  show ∀ (a1 : Int32) (a2 : Int32) (a3 : Int32), AT z x 4 (wM z τ) rI (eqA ad) 0 0 0 0 ad 4 [(0, .ref 0), (1, .int a1), (2, .int a2), (3, .int a3)] [] σ ((M_isSet_L4_r σ n a1 a2 a3).map fun r => (r, σ))
  induction n with
  | zero => intro a1 a2 a3; exact ap_none
  | succ n hk_4 =>
    intro a1 a2 a3
    unfold M_isSet_L4_r
    refine at_iload_n (j := 3) hC rfl rfl dX11_isSet_4 ?_
    refine at_aload_n (j := 0) hC rfl rfl dX11_isSet_5 ?_
    refine gf_X11_444 hC dX11_isSet_6 ?_
    refine ap_icmp_ge (tgt := 54) hC dX11_isSet_9 rfl (fun _ => ?_) (fun _ => ?_)
    · refine at_iconst hC ic_1 dX11_isSet_54 ?_
      exact at_zret (F := eqA ad) (ra := rI) hC nb1 dX11_isSet_55 rfl (Nat.le_refl 0) (Nat.le_refl 0) rfl
    · refine at_iload_n (j := 1) hC rfl rfl dX11_isSet_12 ?_
      refine at_iload_n (j := 3) hC rfl rfl dX11_isSet_13 ?_
      refine at_ishr hC dX11_isSet_14 ?_
      refine at_iconst hC ic_1 dX11_isSet_15 ?_
      refine at_iand hC dX11_isSet_16 ?_
      refine at_iconst hC ic_1 dX11_isSet_17 ?_
      refine ap_icmp_ne (tgt := 48) hC dX11_isSet_18 rfl (fun _ => ?_) (fun _ => ?_)
      · exact t_M_isSet_J48 hC hR σ (M_isSet_L4_r σ n) hk_4 a1 a2 a3
      · refine at_iload_n (j := 2) hC rfl rfl dX11_isSet_21 ?_
        refine at_aload_n (j := 0) hC rfl rfl dX11_isSet_22 ?_
        refine gf_X11_101 hC dX11_isSet_23 ?_
        refine at_iload_n (j := 3) hC rfl rfl dX11_isSet_26 ?_
        refine ap_iald hC 29 dX11_isSet_27 cl_29 (fun v1 => ?_)
        refine at_ishr hC dX11_isSet_28 ?_
        refine at_iconst hC ic_1 dX11_isSet_29 ?_
        refine at_iand hC dX11_isSet_30 ?_
        refine at_iconst hC ic_1 dX11_isSet_31 ?_
        refine ap_icmp_ne (tgt := 37) hC dX11_isSet_32 rfl (fun _ => ?_) (fun _ => ?_)
        · refine at_iload_n (j := 2) hC rfl rfl dX11_isSet_37 ?_
          refine at_iconst hC ic_1 dX11_isSet_38 ?_
          refine at_aload_n (j := 0) hC rfl rfl dX11_isSet_39 ?_
          refine gf_X11_101 hC dX11_isSet_40 ?_
          refine at_iload_n (j := 3) hC rfl rfl dX11_isSet_43 ?_
          refine ap_iald hC 29 dX11_isSet_44 cl_29 (fun v2 => ?_)
          refine at_ishl hC dX11_isSet_45 ?_
          refine at_ior hC dX11_isSet_46 ?_
          refine at_istore_n (lv' := [(2, .int (a2 ||| (1 <<< (v2 &&& 31)))), (0, .ref 0), (1, .int a1), (3, .int a3)]) hC rfl dX11_isSet_47 (by decide) rfl ?_
          refine at_drop (lv' := [(0, .ref 0), (1, .int a1), (2, .int (a2 ||| (1 <<< (v2 &&& 31)))), (3, .int a3)]) [1, 2, 0, 3] rfl ?_
          exact t_M_isSet_J48 hC hR σ (M_isSet_L4_r σ n) hk_4 a1 (a2 ||| (1 <<< (v2 &&& 31))) a3
        · refine at_iconst hC ic_0 dX11_isSet_35 ?_
          exact at_zret (F := eqA ad) (ra := rI) hC nb0 dX11_isSet_36 rfl (Nat.le_refl 0) (Nat.le_refl 0) rfl
set_option maxRecDepth 100000 in
theorem c_M_isSet (σ : MS) (p0 : Int32) : Ct z (wM z τ) rI eqA yX11_isSet cX11_isSet 4 (some .boolean) 1 0 0 [.ref 0, .int p0] σ ((M_isSet σ p0).map fun r => (r, σ)) := by
  refine Ct.of (by decide) (Nat.le_of_ble_eq_true rfl) (fun ad x hC hR _ => ?_)
  show AT z x 4 (wM z τ) rI (eqA ad) 0 0 0 0 ad 0 [(0, .ref 0), (1, .int p0)] [] σ ((M_isSet σ p0).map fun r => (r, σ))
  unfold M_isSet
  refine at_iconst hC ic_0 dX11_isSet_0 ?_
  refine at_istore_n (lv' := [(2, .int 0), (0, .ref 0), (1, .int p0)]) hC rfl dX11_isSet_1 (by decide) rfl ?_
  refine at_iconst hC ic_0 dX11_isSet_2 ?_
  refine at_istore_n (lv' := [(3, .int 0), (2, .int 0), (0, .ref 0), (1, .int p0)]) hC rfl dX11_isSet_3 (by decide) rfl ?_
  refine at_drop (lv' := [(0, .ref 0), (1, .int p0), (2, .int 0), (3, .int 0)]) [2, 3, 1, 0] rfl ?_
  exact t_M_isSet_L4 hC hR σ 100000 p0 0 0
theorem dX11_many_0 : decode cX11_many 0 = .ok (.iconst 0, 1) := by decide +kernel
theorem dX11_many_1 : decode cX11_many 1 = .ok (.istore_n 1, 1) := by decide +kernel
theorem dX11_many_2 : decode cX11_many 2 = .ok (.iconst 0, 1) := by decide +kernel
theorem dX11_many_3 : decode cX11_many 3 = .ok (.istore_n 2, 1) := by decide +kernel
theorem dX11_many_4 : decode cX11_many 4 = .ok (.iload_n 2, 1) := by decide +kernel
theorem dX11_many_5 : decode cX11_many 5 = .ok (.iconst 4, 1) := by decide +kernel
theorem dX11_many_6 : decode cX11_many 6 = .ok (.if_icmp .ge 17, 3) := by decide +kernel
theorem dX11_many_9 : decode cX11_many 9 = .ok (.iload_n 1, 1) := by decide +kernel
theorem dX11_many_10 : decode cX11_many 10 = .ok (.iload_n 0, 1) := by decide +kernel
theorem dX11_many_11 : decode cX11_many 11 = .ok (.iload_n 2, 1) := by decide +kernel
theorem dX11_many_12 : decode cX11_many 12 = .ok (.ishr, 1) := by decide +kernel
theorem dX11_many_13 : decode cX11_many 13 = .ok (.iconst 1, 1) := by decide +kernel
theorem dX11_many_14 : decode cX11_many 14 = .ok (.iand, 1) := by decide +kernel
theorem dX11_many_15 : decode cX11_many 15 = .ok (.iadd, 1) := by decide +kernel
theorem dX11_many_16 : decode cX11_many 16 = .ok (.istore_n 1, 1) := by decide +kernel
theorem dX11_many_17 : decode cX11_many 17 = .ok (.iinc 2 1, 3) := by decide +kernel
theorem dX11_many_20 : decode cX11_many 20 = .ok (.goto (-16), 3) := by decide +kernel
theorem dX11_many_23 : decode cX11_many 23 = .ok (.iload_n 1, 1) := by decide +kernel
theorem dX11_many_24 : decode cX11_many 24 = .ok (.ireturn, 1) := by decide +kernel
set_option maxRecDepth 100000 in
theorem t_M_many_L4 (hC : CX z ad x cX11_many RX11 3 (some .int)) (hR : x.2.2.1 = rmk 1 0 0) (σ : MS) (n : Nat) (a0 : Int32) (a1 : Int32) (a2 : Int32) : AT z x 3 (wM z τ) rI (eqA ad) 0 0 0 0 ad 4 [(0, .int a0), (1, .int a1), (2, .int a2)] [] σ ((M_many_L4 n σ a0 a1 a2).map fun r => (r, σ)) := by
  revert a0 a1 a2
  show ∀ (a0 : Int32) (a1 : Int32) (a2 : Int32), AT z x 3 (wM z τ) rI (eqA ad) 0 0 0 0 ad 4 [(0, .int a0), (1, .int a1), (2, .int a2)] [] σ ((M_many_L4_r σ n a0 a1 a2).map fun r => (r, σ))
  induction n with
  | zero => intro a0 a1 a2; exact ap_none
  | succ n hk_4 =>
    intro a0 a1 a2
    unfold M_many_L4_r
    refine at_iload_n (j := 2) hC rfl rfl dX11_many_4 ?_
    refine at_iconst hC ic_4 dX11_many_5 ?_
    refine ap_icmp_ge (tgt := 23) hC dX11_many_6 rfl (fun _ => ?_) (fun _ => ?_)
    · refine at_iload_n (j := 1) hC rfl rfl dX11_many_23 ?_
      exact at_iret (F := eqA ad) (ra := rI) hC dX11_many_24 rfl (Nat.le_refl 0) (Nat.le_refl 0) rfl
    · refine at_iload_n (j := 1) hC rfl rfl dX11_many_9 ?_
      refine at_iload_n (j := 0) hC rfl rfl dX11_many_10 ?_
      refine at_iload_n (j := 2) hC rfl rfl dX11_many_11 ?_
      refine at_ishr hC dX11_many_12 ?_
      refine at_iconst hC ic_1 dX11_many_13 ?_
      refine at_iand hC dX11_many_14 ?_
      refine at_iadd hC dX11_many_15 ?_
      refine at_istore_n (lv' := [(1, .int (a1 + ((a0 >>> (a2 &&& 31)) &&& 1))), (0, .int a0), (2, .int a2)]) hC rfl dX11_many_16 (by decide) rfl ?_
      refine at_iinc (j := 2) (v := a2 + 1) (lv' := [(2, .int (a2 + 1)), (1, .int (a1 + ((a0 >>> (a2 &&& 31)) &&& 1))), (0, .int a0)]) hC dX11_many_17 rfl rfl (by decide) rfl ?_
      refine at_goto (tgt := 4) hC dX11_many_20 rfl ?_
      refine at_drop (lv' := [(0, .int a0), (1, .int (a1 + ((a0 >>> (a2 &&& 31)) &&& 1))), (2, .int (a2 + 1))]) [2, 1, 0] rfl ?_
      exact hk_4 a0 (a1 + ((a0 >>> (a2 &&& 31)) &&& 1)) (a2 + 1)
set_option maxRecDepth 100000 in
theorem c_M_many (σ : MS) (p0 : Int32) : Ct z (wM z τ) rI eqA yX11_many cX11_many 3 (some .int) 1 0 0 [.int p0] σ ((M_many σ p0).map fun r => (r, σ)) := by
  refine Ct.of (by decide) (Nat.le_of_ble_eq_true rfl) (fun ad x hC hR _ => ?_)
  show AT z x 3 (wM z τ) rI (eqA ad) 0 0 0 0 ad 0 [(0, .int p0)] [] σ ((M_many σ p0).map fun r => (r, σ))
  unfold M_many
  refine at_iconst hC ic_0 dX11_many_0 ?_
  refine at_istore_n (lv' := [(1, .int 0), (0, .int p0)]) hC rfl dX11_many_1 (by decide) rfl ?_
  refine at_iconst hC ic_0 dX11_many_2 ?_
  refine at_istore_n (lv' := [(2, .int 0), (1, .int 0), (0, .int p0)]) hC rfl dX11_many_3 (by decide) rfl ?_
  refine at_drop (lv' := [(0, .int p0), (1, .int 0), (2, .int 0)]) [2, 1, 0] rfl ?_
  exact t_M_many_L4 hC hR σ 100000 p0 0 0
theorem dX11_leastDues_0 : decode cX11_leastDues 0 = .ok (.aload_n 0, 1) := by decide +kernel
theorem dX11_leastDues_1 : decode cX11_leastDues 1 = .ok (.iconst (-1), 1) := by decide +kernel
theorem dX11_leastDues_2 : decode cX11_leastDues 2 = .ok (.invokevirtual 143, 3) := by decide +kernel
theorem dX11_leastDues_5 : decode cX11_leastDues 5 = .ok (.bipush (-5), 2) := by decide +kernel
theorem dX11_leastDues_7 : decode cX11_leastDues 7 = .ok (.istore_n 2, 1) := by decide +kernel
theorem dX11_leastDues_8 : decode cX11_leastDues 8 = .ok (.iconst 0, 1) := by decide +kernel
theorem dX11_leastDues_9 : decode cX11_leastDues 9 = .ok (.istore_n 3, 1) := by decide +kernel
theorem dX11_leastDues_10 : decode cX11_leastDues 10 = .ok (.iload_n 3, 1) := by decide +kernel
theorem dX11_leastDues_11 : decode cX11_leastDues 11 = .ok (.aload_n 0, 1) := by decide +kernel
theorem dX11_leastDues_12 : decode cX11_leastDues 12 = .ok (.getfield 126, 3) := by decide +kernel
theorem dX11_leastDues_15 : decode cX11_leastDues 15 = .ok (.if_icmp .ge 45, 3) := by decide +kernel
theorem dX11_leastDues_18 : decode cX11_leastDues 18 = .ok (.aload_n 0, 1) := by decide +kernel
theorem dX11_leastDues_19 : decode cX11_leastDues 19 = .ok (.iload_n 3, 1) := by decide +kernel
theorem dX11_leastDues_20 : decode cX11_leastDues 20 = .ok (.iload_n 1, 1) := by decide +kernel
theorem dX11_leastDues_21 : decode cX11_leastDues 21 = .ok (.invokevirtual 162, 3) := by decide +kernel
theorem dX11_leastDues_24 : decode cX11_leastDues 24 = .ok (.ifCond .eq 30, 3) := by decide +kernel
theorem dX11_leastDues_27 : decode cX11_leastDues 27 = .ok (.aload_n 0, 1) := by decide +kernel
theorem dX11_leastDues_28 : decode cX11_leastDues 28 = .ok (.iload_n 3, 1) := by decide +kernel
theorem dX11_leastDues_29 : decode cX11_leastDues 29 = .ok (.iload_n 1, 1) := by decide +kernel
theorem dX11_leastDues_30 : decode cX11_leastDues 30 = .ok (.invokevirtual 366, 3) := by decide +kernel
theorem dX11_leastDues_33 : decode cX11_leastDues 33 = .ok (.istore 4, 2) := by decide +kernel
theorem dX11_leastDues_35 : decode cX11_leastDues 35 = .ok (.iload_n 2, 1) := by decide +kernel
theorem dX11_leastDues_36 : decode cX11_leastDues 36 = .ok (.bipush (-5), 2) := by decide +kernel
theorem dX11_leastDues_38 : decode cX11_leastDues 38 = .ok (.if_icmp .eq 9, 3) := by decide +kernel
theorem dX11_leastDues_41 : decode cX11_leastDues 41 = .ok (.iload 4, 2) := by decide +kernel
theorem dX11_leastDues_43 : decode cX11_leastDues 43 = .ok (.iload_n 2, 1) := by decide +kernel
theorem dX11_leastDues_44 : decode cX11_leastDues 44 = .ok (.if_icmp .ge 8, 3) := by decide +kernel
theorem dX11_leastDues_47 : decode cX11_leastDues 47 = .ok (.iload 4, 2) := by decide +kernel
theorem dX11_leastDues_49 : decode cX11_leastDues 49 = .ok (.goto 4, 3) := by decide +kernel
theorem dX11_leastDues_52 : decode cX11_leastDues 52 = .ok (.iload_n 2, 1) := by decide +kernel
theorem dX11_leastDues_53 : decode cX11_leastDues 53 = .ok (.istore_n 2, 1) := by decide +kernel
theorem dX11_leastDues_54 : decode cX11_leastDues 54 = .ok (.iinc 3 1, 3) := by decide +kernel
theorem dX11_leastDues_57 : decode cX11_leastDues 57 = .ok (.goto (-47), 3) := by decide +kernel
theorem dX11_leastDues_60 : decode cX11_leastDues 60 = .ok (.iload_n 2, 1) := by decide +kernel
theorem dX11_leastDues_61 : decode cX11_leastDues 61 = .ok (.ireturn, 1) := by decide +kernel
set_option maxRecDepth 100000 in
theorem t_M_leastDues_J54 (hC : CX z ad x cX11_leastDues RX11 5 (some .int)) (hR : x.2.2.1 = rmk 619 0 0) (k_10 : MS → Int32 → Int32 → Int32 → Option (Int32 × MS)) (hk_10 : ∀ (σ : MS) (a1 : Int32) (a2 : Int32) (a3 : Int32), AT z x 5 (wM z τ) rI (eqA ad) 0 0 0 0 ad 10 [(0, .ref 0), (1, .int a1), (2, .int a2), (3, .int a3)] [] σ (k_10 σ a1 a2 a3)) (σ : MS) (a1 : Int32) (a2 : Int32) (a3 : Int32) : AT z x 5 (wM z τ) rI (eqA ad) 0 0 0 0 ad 54 [(0, .ref 0), (1, .int a1), (2, .int a2), (3, .int a3)] [] σ (M_leastDues_J54 k_10 σ a1 a2 a3) := by
  unfold M_leastDues_J54
  refine at_iinc (j := 3) (v := a3 + 1) (lv' := [(3, .int (a3 + 1)), (0, .ref 0), (1, .int a1), (2, .int a2)]) hC dX11_leastDues_54 rfl rfl (by decide) rfl ?_
  refine at_goto (tgt := 10) hC dX11_leastDues_57 rfl ?_
  refine at_drop (lv' := [(0, .ref 0), (1, .int a1), (2, .int a2), (3, .int (a3 + 1))]) [1, 2, 3, 0] rfl ?_
  exact hk_10 σ a1 a2 (a3 + 1)
set_option maxRecDepth 100000 in
theorem t_M_leastDues_J53 (hC : CX z ad x cX11_leastDues RX11 5 (some .int)) (hR : x.2.2.1 = rmk 619 0 0) (k_10 : MS → Int32 → Int32 → Int32 → Option (Int32 × MS)) (hk_10 : ∀ (σ : MS) (a1 : Int32) (a2 : Int32) (a3 : Int32), AT z x 5 (wM z τ) rI (eqA ad) 0 0 0 0 ad 10 [(0, .ref 0), (1, .int a1), (2, .int a2), (3, .int a3)] [] σ (k_10 σ a1 a2 a3)) (σ : MS) (a1 : Int32) (a3 : Int32) (s0 : Int32) : AT z x 5 (wM z τ) rI (eqA ad) 0 0 0 0 ad 53 [(0, .ref 0), (1, .int a1), (3, .int a3)] [.int s0] σ (M_leastDues_J53 k_10 σ a1 a3 s0) := by
  unfold M_leastDues_J53
  refine at_istore_n (lv' := [(2, .int s0), (0, .ref 0), (1, .int a1), (3, .int a3)]) hC rfl dX11_leastDues_53 (by decide) rfl ?_
  refine at_drop (lv' := [(0, .ref 0), (1, .int a1), (2, .int s0), (3, .int a3)]) [1, 2, 0, 3] rfl ?_
  exact t_M_leastDues_J54 hC hR k_10 hk_10 σ a1 s0 a3
set_option maxRecDepth 100000 in
theorem t_M_leastDues_J47 (hC : CX z ad x cX11_leastDues RX11 5 (some .int)) (hR : x.2.2.1 = rmk 619 0 0) (k_10 : MS → Int32 → Int32 → Int32 → Option (Int32 × MS)) (hk_10 : ∀ (σ : MS) (a1 : Int32) (a2 : Int32) (a3 : Int32), AT z x 5 (wM z τ) rI (eqA ad) 0 0 0 0 ad 10 [(0, .ref 0), (1, .int a1), (2, .int a2), (3, .int a3)] [] σ (k_10 σ a1 a2 a3)) (σ : MS) (a1 : Int32) (a3 : Int32) (a4 : Int32) : AT z x 5 (wM z τ) rI (eqA ad) 0 0 0 0 ad 47 [(0, .ref 0), (1, .int a1), (3, .int a3), (4, .int a4)] [] σ (M_leastDues_J47 k_10 σ a1 a3 a4) := by
  unfold M_leastDues_J47
  refine at_iload (j := 3) hC rfl dX11_leastDues_47 ?_
  refine at_goto (tgt := 53) hC dX11_leastDues_49 rfl ?_
  refine at_drop (lv' := [(0, .ref 0), (1, .int a1), (3, .int a3)]) [0, 1, 2] rfl ?_
  exact t_M_leastDues_J53 hC hR k_10 hk_10 σ a1 a3 a4
set_option maxRecDepth 100000 in
theorem t_M_leastDues_L10 (hC : CX z ad x cX11_leastDues RX11 5 (some .int)) (hR : x.2.2.1 = rmk 619 0 0) (n : Nat) (σ : MS) (a1 : Int32) (a2 : Int32) (a3 : Int32) : AT z x 5 (wM z τ) rI (eqA ad) 0 0 0 0 ad 10 [(0, .ref 0), (1, .int a1), (2, .int a2), (3, .int a3)] [] σ (M_leastDues_L10 n σ a1 a2 a3) := by
  revert σ a1 a2 a3
  show ∀ (σ : MS) (a1 : Int32) (a2 : Int32) (a3 : Int32), AT z x 5 (wM z τ) rI (eqA ad) 0 0 0 0 ad 10 [(0, .ref 0), (1, .int a1), (2, .int a2), (3, .int a3)] [] σ (M_leastDues_L10_r n σ a1 a2 a3)
  induction n with
  | zero => intro σ a1 a2 a3; exact at_none
  | succ n hk_10 =>
    intro σ a1 a2 a3
    unfold M_leastDues_L10_r
    refine at_iload_n (j := 3) hC rfl rfl dX11_leastDues_10 ?_
    refine at_aload_n (j := 0) hC rfl rfl dX11_leastDues_11 ?_
    refine gf_X11_126 hC dX11_leastDues_12 ?_
    refine at_icmp_ge (tgt := 60) hC dX11_leastDues_15 rfl (fun _ => ?_) (fun _ => ?_)
    · refine at_iload_n (j := 2) hC rfl rfl dX11_leastDues_60 ?_
      exact at_iret (F := eqA ad) (ra := rI) hC dX11_leastDues_61 rfl (Nat.le_refl 0) (Nat.le_refl 0) rfl
    · refine at_aload_n (j := 0) hC rfl rfl dX11_leastDues_18 ?_
      refine at_iload_n (j := 3) hC rfl rfl dX11_leastDues_19 ?_
      refine at_iload_n (j := 1) hC rfl rfl dX11_leastDues_20 ?_
      refine at_callVpI hC hR lk_X11_162 (c_M_isMember σ a3 a1) dX11_leastDues_21 recX11 rfl rfl ⟨by decide, by decide⟩ (Nat.le_of_ble_eq_true rfl) ⟨Nat.le_refl 0, Nat.le_refl 0⟩ (fun r2 _ => ?_)
      refine at_if_eq (tgt := 54) hC dX11_leastDues_24 rfl (fun _ => ?_) (fun _ => ?_)
      · exact t_M_leastDues_J54 hC hR (M_leastDues_L10_r n) hk_10 σ a1 a2 a3
      · refine at_aload_n (j := 0) hC rfl rfl dX11_leastDues_27 ?_
        refine at_iload_n (j := 3) hC rfl rfl dX11_leastDues_28 ?_
        refine at_iload_n (j := 1) hC rfl rfl dX11_leastDues_29 ?_
        refine at_callVI hC hR lk_X11_366 (c_M_dueOf σ a3 a1) dX11_leastDues_30 recX11 rfl rfl ⟨by decide, by decide⟩ (Nat.le_of_ble_eq_true rfl) ⟨Nat.le_refl 0, Nat.le_refl 0⟩ (fun r3 r3s _ => ?_)
        refine at_istore (lv' := [(4, .int r3), (0, .ref 0), (1, .int a1), (2, .int a2), (3, .int a3)]) hC dX11_leastDues_33 (by decide) rfl ?_
        refine at_iload_n (j := 3) hC rfl rfl dX11_leastDues_35 ?_
        refine at_bipush hC bi_m5 dX11_leastDues_36 ?_
        refine at_icmp_eq (tgt := 47) hC dX11_leastDues_38 rfl (fun _ => ?_) (fun _ => ?_)
        · refine at_drop (lv' := [(0, .ref 0), (1, .int a1), (3, .int a3), (4, .int r3)]) [1, 2, 4, 0] rfl ?_
          exact t_M_leastDues_J47 hC hR (M_leastDues_L10_r n) hk_10 r3s a1 a3 r3
        · refine at_iload (j := 0) hC rfl dX11_leastDues_41 ?_
          refine at_iload_n (j := 3) hC rfl rfl dX11_leastDues_43 ?_
          refine at_icmp_ge (tgt := 52) hC dX11_leastDues_44 rfl (fun _ => ?_) (fun _ => ?_)
          · refine at_iload_n (j := 3) hC rfl rfl dX11_leastDues_52 ?_
            refine at_drop (lv' := [(0, .ref 0), (1, .int a1), (3, .int a3)]) [1, 2, 4] rfl ?_
            exact t_M_leastDues_J53 hC hR (M_leastDues_L10_r n) hk_10 r3s a1 a3 a2
          · refine at_drop (lv' := [(0, .ref 0), (1, .int a1), (3, .int a3), (4, .int r3)]) [1, 2, 4, 0] rfl ?_
            exact t_M_leastDues_J47 hC hR (M_leastDues_L10_r n) hk_10 r3s a1 a3 r3
set_option maxRecDepth 100000 in
theorem c_M_leastDues (σ : MS) (p0 : Int32) : Ct z (wM z τ) rI eqA yX11_leastDues cX11_leastDues 5 (some .int) 619 0 0 [.ref 0, .int p0] σ (M_leastDues σ p0) := by
  refine Ct.of (by decide) (Nat.le_of_ble_eq_true rfl) (fun ad x hC hR _ => ?_)
  show AT z x 5 (wM z τ) rI (eqA ad) 0 0 0 0 ad 0 [(0, .ref 0), (1, .int p0)] [] σ (M_leastDues σ p0)
  unfold M_leastDues
  refine at_aload_n (j := 0) hC rfl rfl dX11_leastDues_0 ?_
  refine at_iconst hC ic_m1 dX11_leastDues_1 ?_
  refine at_callVU hC hR lk_X11_143 (c_M_looks σ (-1)) dX11_leastDues_2 recX11 rfl rfl ⟨by decide, by decide⟩ (Nat.le_of_ble_eq_true rfl) ⟨Nat.le_refl 0, Nat.le_refl 0⟩ (fun r1 r1s _ => ?_)
  refine at_bipush hC bi_m5 dX11_leastDues_5 ?_
  refine at_istore_n (lv' := [(2, .int (-5)), (0, .ref 0), (1, .int p0)]) hC rfl dX11_leastDues_7 (by decide) rfl ?_
  refine at_iconst hC ic_0 dX11_leastDues_8 ?_
  refine at_istore_n (lv' := [(3, .int 0), (2, .int (-5)), (0, .ref 0), (1, .int p0)]) hC rfl dX11_leastDues_9 (by decide) rfl ?_
  refine at_drop (lv' := [(0, .ref 0), (1, .int p0), (2, .int (-5)), (3, .int 0)]) [2, 3, 1, 0] rfl ?_
  exact t_M_leastDues_L10 hC hR 100000 r1s p0 (-5) 0
end G
