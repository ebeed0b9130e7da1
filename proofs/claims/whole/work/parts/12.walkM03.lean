section G
variable {z : ZZ} {x : XX} {ad : Nat → Nat} {τ : XS}
theorem dX11_person_0 : decode cX11_person 0 = .ok (.iload_n 3, 1) := by decide +kernel
theorem dX11_person_1 : decode cX11_person 1 = .ok (.iconst (-1), 1) := by decide +kernel
theorem dX11_person_2 : decode cX11_person 2 = .ok (.if_icmp .eq 11, 3) := by decide +kernel
theorem dX11_person_5 : decode cX11_person 5 = .ok (.aload_n 0, 1) := by decide +kernel
theorem dX11_person_6 : decode cX11_person 6 = .ok (.iload_n 3, 1) := by decide +kernel
theorem dX11_person_7 : decode cX11_person 7 = .ok (.invokevirtual 174, 3) := by decide +kernel
theorem dX11_person_10 : decode cX11_person 10 = .ok (.ifCond .eq 27, 3) := by decide +kernel
theorem dX11_person_13 : decode cX11_person 13 = .ok (.iload 4, 2) := by decide +kernel
theorem dX11_person_15 : decode cX11_person 15 = .ok (.iconst (-1), 1) := by decide +kernel
theorem dX11_person_16 : decode cX11_person 16 = .ok (.if_icmp .eq 23, 3) := by decide +kernel
theorem dX11_person_19 : decode cX11_person 19 = .ok (.aload_n 0, 1) := by decide +kernel
theorem dX11_person_20 : decode cX11_person 20 = .ok (.iload 4, 2) := by decide +kernel
theorem dX11_person_22 : decode cX11_person 22 = .ok (.invokevirtual 133, 3) := by decide +kernel
theorem dX11_person_25 : decode cX11_person 25 = .ok (.ifCond .eq 12, 3) := by decide +kernel
theorem dX11_person_28 : decode cX11_person 28 = .ok (.aload_n 0, 1) := by decide +kernel
theorem dX11_person_29 : decode cX11_person 29 = .ok (.iload 4, 2) := by decide +kernel
theorem dX11_person_31 : decode cX11_person 31 = .ok (.invokevirtual 174, 3) := by decide +kernel
theorem dX11_person_34 : decode cX11_person 34 = .ok (.ifCond .eq 5, 3) := by decide +kernel
theorem dX11_person_37 : decode cX11_person 37 = .ok (.iconst (-1), 1) := by decide +kernel
theorem dX11_person_38 : decode cX11_person 38 = .ok (.ireturn, 1) := by decide +kernel
theorem dX11_person_39 : decode cX11_person 39 = .ok (.iload_n 3, 1) := by decide +kernel
theorem dX11_person_40 : decode cX11_person 40 = .ok (.iconst (-1), 1) := by decide +kernel
theorem dX11_person_41 : decode cX11_person 41 = .ok (.if_icmp .eq 13, 3) := by decide +kernel
theorem dX11_person_44 : decode cX11_person 44 = .ok (.iload_n 2, 1) := by decide +kernel
theorem dX11_person_45 : decode cX11_person 45 = .ok (.aload_n 0, 1) := by decide +kernel
theorem dX11_person_46 : decode cX11_person 46 = .ok (.getfield 15, 3) := by decide +kernel
theorem dX11_person_49 : decode cX11_person 49 = .ok (.iload_n 3, 1) := by decide +kernel
theorem dX11_person_50 : decode cX11_person 50 = .ok (.iaload, 1) := by decide +kernel
theorem dX11_person_51 : decode cX11_person 51 = .ok (.if_icmp .le 24, 3) := by decide +kernel
theorem dX11_person_54 : decode cX11_person 54 = .ok (.iload 4, 2) := by decide +kernel
theorem dX11_person_56 : decode cX11_person 56 = .ok (.iconst (-1), 1) := by decide +kernel
theorem dX11_person_57 : decode cX11_person 57 = .ok (.if_icmp .eq 14, 3) := by decide +kernel
theorem dX11_person_60 : decode cX11_person 60 = .ok (.iload_n 2, 1) := by decide +kernel
theorem dX11_person_61 : decode cX11_person 61 = .ok (.aload_n 0, 1) := by decide +kernel
theorem dX11_person_62 : decode cX11_person 62 = .ok (.getfield 15, 3) := by decide +kernel
theorem dX11_person_65 : decode cX11_person 65 = .ok (.iload 4, 2) := by decide +kernel
theorem dX11_person_67 : decode cX11_person 67 = .ok (.iaload, 1) := by decide +kernel
theorem dX11_person_68 : decode cX11_person 68 = .ok (.if_icmp .le 7, 3) := by decide +kernel
theorem dX11_person_71 : decode cX11_person 71 = .ok (.iconst 1, 1) := by decide +kernel
theorem dX11_person_72 : decode cX11_person 72 = .ok (.goto 4, 3) := by decide +kernel
theorem dX11_person_75 : decode cX11_person 75 = .ok (.iconst 0, 1) := by decide +kernel
theorem dX11_person_76 : decode cX11_person 76 = .ok (.istore 5, 2) := by decide +kernel
theorem dX11_person_78 : decode cX11_person 78 = .ok (.iload_n 1, 1) := by decide +kernel
theorem dX11_person_79 : decode cX11_person 79 = .ok (.iconst 0, 1) := by decide +kernel
theorem dX11_person_80 : decode cX11_person 80 = .ok (.iconst 1, 1) := by decide +kernel
theorem dX11_person_81 : decode cX11_person 81 = .ok (.invokestatic 129, 3) := by decide +kernel
theorem dX11_person_84 : decode cX11_person 84 = .ok (.ifCond .eq 15, 3) := by decide +kernel
theorem dX11_person_87 : decode cX11_person 87 = .ok (.iload_n 2, 1) := by decide +kernel
theorem dX11_person_88 : decode cX11_person 88 = .ok (.invokestatic 177, 3) := by decide +kernel
theorem dX11_person_91 : decode cX11_person 91 = .ok (.ifCond .eq 8, 3) := by decide +kernel
theorem dX11_person_94 : decode cX11_person 94 = .ok (.iload 5, 2) := by decide +kernel
theorem dX11_person_96 : decode cX11_person 96 = .ok (.ifCond .ne 6, 3) := by decide +kernel
theorem dX11_person_99 : decode cX11_person 99 = .ok (.bipush (-2), 2) := by decide +kernel
theorem dX11_person_101 : decode cX11_person 101 = .ok (.ireturn, 1) := by decide +kernel
theorem dX11_person_102 : decode cX11_person 102 = .ok (.aload_n 0, 1) := by decide +kernel
theorem dX11_person_103 : decode cX11_person 103 = .ok (.getfield 126, 3) := by decide +kernel
theorem dX11_person_106 : decode cX11_person 106 = .ok (.bipush 24, 2) := by decide +kernel
theorem dX11_person_108 : decode cX11_person 108 = .ok (.if_icmp .ne 6, 3) := by decide +kernel
theorem dX11_person_111 : decode cX11_person 111 = .ok (.bipush (-4), 2) := by decide +kernel
theorem dX11_person_113 : decode cX11_person 113 = .ok (.ireturn, 1) := by decide +kernel
theorem dX11_person_114 : decode cX11_person 114 = .ok (.aload_n 0, 1) := by decide +kernel
theorem dX11_person_115 : decode cX11_person 115 = .ok (.getfield 11, 3) := by decide +kernel
theorem dX11_person_118 : decode cX11_person 118 = .ok (.aload_n 0, 1) := by decide +kernel
theorem dX11_person_119 : decode cX11_person 119 = .ok (.getfield 126, 3) := by decide +kernel
theorem dX11_person_122 : decode cX11_person 122 = .ok (.iload_n 1, 1) := by decide +kernel
theorem dX11_person_123 : decode cX11_person 123 = .ok (.iastore, 1) := by decide +kernel
theorem dX11_person_124 : decode cX11_person 124 = .ok (.aload_n 0, 1) := by decide +kernel
theorem dX11_person_125 : decode cX11_person 125 = .ok (.getfield 15, 3) := by decide +kernel
theorem dX11_person_128 : decode cX11_person 128 = .ok (.aload_n 0, 1) := by decide +kernel
theorem dX11_person_129 : decode cX11_person 129 = .ok (.getfield 126, 3) := by decide +kernel
theorem dX11_person_132 : decode cX11_person 132 = .ok (.iload_n 2, 1) := by decide +kernel
theorem dX11_person_133 : decode cX11_person 133 = .ok (.iastore, 1) := by decide +kernel
theorem dX11_person_134 : decode cX11_person 134 = .ok (.aload_n 0, 1) := by decide +kernel
theorem dX11_person_135 : decode cX11_person 135 = .ok (.getfield 18, 3) := by decide +kernel
theorem dX11_person_138 : decode cX11_person 138 = .ok (.aload_n 0, 1) := by decide +kernel
theorem dX11_person_139 : decode cX11_person 139 = .ok (.getfield 126, 3) := by decide +kernel
theorem dX11_person_142 : decode cX11_person 142 = .ok (.iload_n 3, 1) := by decide +kernel
theorem dX11_person_143 : decode cX11_person 143 = .ok (.iastore, 1) := by decide +kernel
theorem dX11_person_144 : decode cX11_person 144 = .ok (.aload_n 0, 1) := by decide +kernel
theorem dX11_person_145 : decode cX11_person 145 = .ok (.getfield 21, 3) := by decide +kernel
theorem dX11_person_148 : decode cX11_person 148 = .ok (.aload_n 0, 1) := by decide +kernel
theorem dX11_person_149 : decode cX11_person 149 = .ok (.getfield 126, 3) := by decide +kernel
theorem dX11_person_152 : decode cX11_person 152 = .ok (.iload 4, 2) := by decide +kernel
theorem dX11_person_154 : decode cX11_person 154 = .ok (.iastore, 1) := by decide +kernel
theorem dX11_person_155 : decode cX11_person 155 = .ok (.aload_n 0, 1) := by decide +kernel
theorem dX11_person_156 : decode cX11_person 156 = .ok (.dup, 1) := by decide +kernel
theorem dX11_person_157 : decode cX11_person 157 = .ok (.getfield 126, 3) := by decide +kernel
theorem dX11_person_160 : decode cX11_person 160 = .ok (.iconst 1, 1) := by decide +kernel
theorem dX11_person_161 : decode cX11_person 161 = .ok (.iadd, 1) := by decide +kernel
theorem dX11_person_162 : decode cX11_person 162 = .ok (.putfield 126, 3) := by decide +kernel
theorem dX11_person_165 : decode cX11_person 165 = .ok (.aload_n 0, 1) := by decide +kernel
theorem dX11_person_166 : decode cX11_person 166 = .ok (.getfield 126, 3) := by decide +kernel
theorem dX11_person_169 : decode cX11_person 169 = .ok (.iconst 1, 1) := by decide +kernel
theorem dX11_person_170 : decode cX11_person 170 = .ok (.isub, 1) := by decide +kernel
theorem dX11_person_171 : decode cX11_person 171 = .ok (.ireturn, 1) := by decide +kernel
set_option maxRecDepth 100000 in
theorem t_M_person_J76 (hC : CX z ad x cX11_person RX11 6 (some .int)) (hR : x.2.2.1 = rmk 4 0 0) (σ : MS) (a1 : Int32) (a2 : Int32) (a3 : Int32) (a4 : Int32) (s0 : Int32) : AT z x 6 (wM z τ) rI (eqA ad) 0 0 0 0 ad 76 [(0, .ref 0), (1, .int a1), (2, .int a2), (3, .int a3), (4, .int a4)] [.int s0] σ (M_person_J76 σ a1 a2 a3 a4 s0) := by
  unfold M_person_J76
  refine at_istore (lv' := [(5, .int s0), (0, .ref 0), (1, .int a1), (2, .int a2), (3, .int a3), (4, .int a4)]) hC dX11_person_76 (by decide) rfl ?_
  refine at_iload_n (j := 2) hC rfl rfl dX11_person_78 ?_
  refine at_iconst hC ic_0 dX11_person_79 ?_
  refine at_iconst hC ic_1 dX11_person_80 ?_
  refine at_callSpI hC hR lk_X11_129 (c_M_in σ a1 0 1) dX11_person_81 rfl rfl ⟨by decide, by decide⟩ (Nat.le_of_ble_eq_true rfl) ⟨Nat.le_refl 0, Nat.le_refl 0⟩ (fun r1 _ => ?_)
  refine at_if_eq (tgt := 99) hC dX11_person_84 rfl (fun _ => ?_) (fun _ => ?_)
  · refine at_bipush hC bi_m2 dX11_person_99 ?_
    exact at_iret (F := eqA ad) (ra := rI) hC dX11_person_101 rfl (Nat.le_refl 0) (Nat.le_refl 0) rfl
  · refine at_iload_n (j := 3) hC rfl rfl dX11_person_87 ?_
    refine at_callSpI hC hR lk_X11_177 (c_M_isDay σ a2) dX11_person_88 rfl rfl ⟨by decide, by decide⟩ (Nat.le_of_ble_eq_true rfl) ⟨Nat.le_refl 0, Nat.le_refl 0⟩ (fun r2 _ => ?_)
    refine at_if_eq (tgt := 99) hC dX11_person_91 rfl (fun _ => ?_) (fun _ => ?_)
    · refine at_bipush hC bi_m2 dX11_person_99 ?_
      exact at_iret (F := eqA ad) (ra := rI) hC dX11_person_101 rfl (Nat.le_refl 0) (Nat.le_refl 0) rfl
    · refine at_iload (j := 0) hC rfl dX11_person_94 ?_
      refine at_if_ne (tgt := 102) hC dX11_person_96 rfl (fun _ => ?_) (fun _ => ?_)
      · refine at_aload_n (j := 1) hC rfl rfl dX11_person_102 ?_
        refine gf_X11_126 hC dX11_person_103 ?_
        refine at_bipush hC bi_24 dX11_person_106 ?_
        refine at_icmp_ne (tgt := 114) hC dX11_person_108 rfl (fun _ => ?_) (fun _ => ?_)
        · refine at_aload_n (j := 1) hC rfl rfl dX11_person_114 ?_
          refine gf_X11_11 hC dX11_person_115 ?_
          refine at_aload_n (j := 1) hC rfl rfl dX11_person_118 ?_
          refine gf_X11_126 hC dX11_person_119 ?_
          refine at_iload_n (j := 2) hC rfl rfl dX11_person_122 ?_
          refine at_iast hC 1 dX11_person_123 cl_1 st_1 ?_
          refine at_aload_n (j := 1) hC rfl rfl dX11_person_124 ?_
          refine gf_X11_15 hC dX11_person_125 ?_
          refine at_aload_n (j := 1) hC rfl rfl dX11_person_128 ?_
          refine gf_X11_126 hC dX11_person_129 ?_
          refine at_iload_n (j := 3) hC rfl rfl dX11_person_132 ?_
          refine at_iast hC 2 dX11_person_133 cl_2 st_2 ?_
          refine at_aload_n (j := 1) hC rfl rfl dX11_person_134 ?_
          refine gf_X11_18 hC dX11_person_135 ?_
          refine at_aload_n (j := 1) hC rfl rfl dX11_person_138 ?_
          refine gf_X11_126 hC dX11_person_139 ?_
          refine at_iload_n (j := 4) hC rfl rfl dX11_person_142 ?_
          refine at_iast hC 3 dX11_person_143 cl_3 st_3 ?_
          refine at_aload_n (j := 1) hC rfl rfl dX11_person_144 ?_
          refine gf_X11_21 hC dX11_person_145 ?_
          refine at_aload_n (j := 1) hC rfl rfl dX11_person_148 ?_
          refine gf_X11_126 hC dX11_person_149 ?_
          refine at_iload (j := 5) hC rfl dX11_person_152 ?_
          refine at_iast hC 4 dX11_person_154 cl_4 st_4 ?_
          refine at_aload_n (j := 1) hC rfl rfl dX11_person_155 ?_
          refine at_dup hC rfl dX11_person_156 ?_
          refine gf_X11_126 hC dX11_person_157 ?_
          refine at_iconst hC ic_1 dX11_person_160 ?_
          refine at_iadd hC dX11_person_161 ?_
          refine pf_X11_126 hC dX11_person_162 ?_
          refine at_aload_n (j := 1) hC rfl rfl dX11_person_165 ?_
          refine gf_X11_126 hC dX11_person_166 ?_
          refine at_iconst hC ic_1 dX11_person_169 ?_
          refine at_isub hC dX11_person_170 ?_
          exact at_iret (F := eqA ad) (ra := rI) hC dX11_person_171 rfl (Nat.le_refl 0) (Nat.le_refl 0) rfl
        · refine at_bipush hC bi_m4 dX11_person_111 ?_
          exact at_iret (F := eqA ad) (ra := rI) hC dX11_person_113 rfl (Nat.le_refl 0) (Nat.le_refl 0) rfl
      · refine at_bipush hC bi_m2 dX11_person_99 ?_
        exact at_iret (F := eqA ad) (ra := rI) hC dX11_person_101 rfl (Nat.le_refl 0) (Nat.le_refl 0) rfl
set_option maxRecDepth 100000 in
theorem t_M_person_J71 (hC : CX z ad x cX11_person RX11 6 (some .int)) (hR : x.2.2.1 = rmk 4 0 0) (σ : MS) (a1 : Int32) (a2 : Int32) (a3 : Int32) (a4 : Int32) : AT z x 6 (wM z τ) rI (eqA ad) 0 0 0 0 ad 71 [(0, .ref 0), (1, .int a1), (2, .int a2), (3, .int a3), (4, .int a4)] [] σ (M_person_J71 σ a1 a2 a3 a4) := by
  unfold M_person_J71
  refine at_iconst hC ic_1 dX11_person_71 ?_
  refine at_goto (tgt := 76) hC dX11_person_72 rfl ?_
  exact t_M_person_J76 hC hR σ a1 a2 a3 a4 1
set_option maxRecDepth 100000 in
theorem t_M_person_J75 (hC : CX z ad x cX11_person RX11 6 (some .int)) (hR : x.2.2.1 = rmk 4 0 0) (σ : MS) (a1 : Int32) (a2 : Int32) (a3 : Int32) (a4 : Int32) : AT z x 6 (wM z τ) rI (eqA ad) 0 0 0 0 ad 75 [(0, .ref 0), (1, .int a1), (2, .int a2), (3, .int a3), (4, .int a4)] [] σ (M_person_J75 σ a1 a2 a3 a4) := by
  unfold M_person_J75
  refine at_iconst hC ic_0 dX11_person_75 ?_
  exact t_M_person_J76 hC hR σ a1 a2 a3 a4 0
set_option maxRecDepth 100000 in
theorem t_M_person_J54 (hC : CX z ad x cX11_person RX11 6 (some .int)) (hR : x.2.2.1 = rmk 4 0 0) (σ : MS) (a1 : Int32) (a2 : Int32) (a3 : Int32) (a4 : Int32) : AT z x 6 (wM z τ) rI (eqA ad) 0 0 0 0 ad 54 [(0, .ref 0), (1, .int a1), (2, .int a2), (3, .int a3), (4, .int a4)] [] σ (M_person_J54 σ a1 a2 a3 a4) := by
  unfold M_person_J54
  refine at_iload (j := 4) hC rfl dX11_person_54 ?_
  refine at_iconst hC ic_m1 dX11_person_56 ?_
  refine at_icmp_eq (tgt := 71) hC dX11_person_57 rfl (fun _ => ?_) (fun _ => ?_)
  · exact t_M_person_J71 hC hR σ a1 a2 a3 a4
  · refine at_iload_n (j := 2) hC rfl rfl dX11_person_60 ?_
    refine at_aload_n (j := 0) hC rfl rfl dX11_person_61 ?_
    refine gf_X11_15 hC dX11_person_62 ?_
    refine at_iload (j := 4) hC rfl dX11_person_65 ?_
    refine at_iald hC 2 dX11_person_67 cl_2 (fun v3 => ?_)
    refine at_icmp_le (tgt := 75) hC dX11_person_68 rfl (fun _ => ?_) (fun _ => ?_)
    · exact t_M_person_J75 hC hR σ a1 a2 a3 a4
    · exact t_M_person_J71 hC hR σ a1 a2 a3 a4
set_option maxRecDepth 100000 in
theorem t_M_person_J39 (hC : CX z ad x cX11_person RX11 6 (some .int)) (hR : x.2.2.1 = rmk 4 0 0) (σ : MS) (a1 : Int32) (a2 : Int32) (a3 : Int32) (a4 : Int32) : AT z x 6 (wM z τ) rI (eqA ad) 0 0 0 0 ad 39 [(0, .ref 0), (1, .int a1), (2, .int a2), (3, .int a3), (4, .int a4)] [] σ (M_person_J39 σ a1 a2 a3 a4) := by
  unfold M_person_J39
  refine at_iload_n (j := 3) hC rfl rfl dX11_person_39 ?_
  refine at_iconst hC ic_m1 dX11_person_40 ?_
  refine at_icmp_eq (tgt := 54) hC dX11_person_41 rfl (fun _ => ?_) (fun _ => ?_)
  · exact t_M_person_J54 hC hR σ a1 a2 a3 a4
  · refine at_iload_n (j := 2) hC rfl rfl dX11_person_44 ?_
    refine at_aload_n (j := 0) hC rfl rfl dX11_person_45 ?_
    refine gf_X11_15 hC dX11_person_46 ?_
    refine at_iload_n (j := 3) hC rfl rfl dX11_person_49 ?_
    refine at_iald hC 2 dX11_person_50 cl_2 (fun v4 => ?_)
    refine at_icmp_le (tgt := 75) hC dX11_person_51 rfl (fun _ => ?_) (fun _ => ?_)
    · exact t_M_person_J75 hC hR σ a1 a2 a3 a4
    · exact t_M_person_J54 hC hR σ a1 a2 a3 a4
set_option maxRecDepth 100000 in
theorem t_M_person_J13 (hC : CX z ad x cX11_person RX11 6 (some .int)) (hR : x.2.2.1 = rmk 4 0 0) (σ : MS) (a1 : Int32) (a2 : Int32) (a3 : Int32) (a4 : Int32) : AT z x 6 (wM z τ) rI (eqA ad) 0 0 0 0 ad 13 [(0, .ref 0), (1, .int a1), (2, .int a2), (3, .int a3), (4, .int a4)] [] σ (M_person_J13 σ a1 a2 a3 a4) := by
  unfold M_person_J13
  refine at_iload (j := 4) hC rfl dX11_person_13 ?_
  refine at_iconst hC ic_m1 dX11_person_15 ?_
  refine at_icmp_eq (tgt := 39) hC dX11_person_16 rfl (fun _ => ?_) (fun _ => ?_)
  · exact t_M_person_J39 hC hR σ a1 a2 a3 a4
  · refine at_aload_n (j := 0) hC rfl rfl dX11_person_19 ?_
    refine at_iload (j := 4) hC rfl dX11_person_20 ?_
    refine at_callVpI hC hR lk_X11_133 (c_M_isPerson σ a4) dX11_person_22 recX11 rfl rfl ⟨by decide, by decide⟩ (Nat.le_of_ble_eq_true rfl) ⟨Nat.le_refl 0, Nat.le_refl 0⟩ (fun r5 _ => ?_)
    refine at_if_eq (tgt := 37) hC dX11_person_25 rfl (fun _ => ?_) (fun _ => ?_)
    · refine at_iconst hC ic_m1 dX11_person_37 ?_
      exact at_iret (F := eqA ad) (ra := rI) hC dX11_person_38 rfl (Nat.le_refl 0) (Nat.le_refl 0) rfl
    · refine at_aload_n (j := 0) hC rfl rfl dX11_person_28 ?_
      refine at_iload (j := 4) hC rfl dX11_person_29 ?_
      refine at_callVpI hC hR lk_X11_174 (c_M_isMan σ a4) dX11_person_31 recX11 rfl rfl ⟨by decide, by decide⟩ (Nat.le_of_ble_eq_true rfl) ⟨Nat.le_refl 0, Nat.le_refl 0⟩ (fun r6 _ => ?_)
      refine at_if_eq (tgt := 39) hC dX11_person_34 rfl (fun _ => ?_) (fun _ => ?_)
      · exact t_M_person_J39 hC hR σ a1 a2 a3 a4
      · refine at_iconst hC ic_m1 dX11_person_37 ?_
        exact at_iret (F := eqA ad) (ra := rI) hC dX11_person_38 rfl (Nat.le_refl 0) (Nat.le_refl 0) rfl
set_option maxRecDepth 100000 in
theorem c_M_person (σ : MS) (p0 : Int32) (p1 : Int32) (p2 : Int32) (p3 : Int32) : Ct z (wM z τ) rI eqA yX11_person cX11_person 6 (some .int) 4 0 0 [.ref 0, .int p0, .int p1, .int p2, .int p3] σ (M_person σ p0 p1 p2 p3) := by
  refine Ct.of (by decide) (Nat.le_of_ble_eq_true rfl) (fun ad x hC hR _ => ?_)
  show AT z x 6 (wM z τ) rI (eqA ad) 0 0 0 0 ad 0 [(0, .ref 0), (1, .int p0), (2, .int p1), (3, .int p2), (4, .int p3)] [] σ (M_person σ p0 p1 p2 p3)
  unfold M_person
  refine at_iload_n (j := 3) hC rfl rfl dX11_person_0 ?_
  refine at_iconst hC ic_m1 dX11_person_1 ?_
  refine at_icmp_eq (tgt := 13) hC dX11_person_2 rfl (fun _ => ?_) (fun _ => ?_)
  · exact t_M_person_J13 hC hR σ p0 p1 p2 p3
  · refine at_aload_n (j := 0) hC rfl rfl dX11_person_5 ?_
    refine at_iload_n (j := 3) hC rfl rfl dX11_person_6 ?_
    refine at_callVpI hC hR lk_X11_174 (c_M_isMan σ p2) dX11_person_7 recX11 rfl rfl ⟨by decide, by decide⟩ (Nat.le_of_ble_eq_true rfl) ⟨Nat.le_refl 0, Nat.le_refl 0⟩ (fun r7 _ => ?_)
    refine at_if_eq (tgt := 37) hC dX11_person_10 rfl (fun _ => ?_) (fun _ => ?_)
    · refine at_iconst hC ic_m1 dX11_person_37 ?_
      exact at_iret (F := eqA ad) (ra := rI) hC dX11_person_38 rfl (Nat.le_refl 0) (Nat.le_refl 0) rfl
    · exact t_M_person_J13 hC hR σ p0 p1 p2 p3
theorem dX11_birth_0 : decode cX11_birth 0 = .ok (.aload_n 0, 1) := by decide +kernel
theorem dX11_birth_1 : decode cX11_birth 1 = .ok (.iload_n 1, 1) := by decide +kernel
theorem dX11_birth_2 : decode cX11_birth 2 = .ok (.invokevirtual 133, 3) := by decide +kernel
theorem dX11_birth_5 : decode cX11_birth 5 = .ok (.ifCond .ne 5, 3) := by decide +kernel
theorem dX11_birth_8 : decode cX11_birth 8 = .ok (.iconst (-1), 1) := by decide +kernel
theorem dX11_birth_9 : decode cX11_birth 9 = .ok (.ireturn, 1) := by decide +kernel
theorem dX11_birth_10 : decode cX11_birth 10 = .ok (.iload_n 2, 1) := by decide +kernel
theorem dX11_birth_11 : decode cX11_birth 11 = .ok (.ifCond .ne 12, 3) := by decide +kernel
theorem dX11_birth_14 : decode cX11_birth 14 = .ok (.aload_n 0, 1) := by decide +kernel
theorem dX11_birth_15 : decode cX11_birth 15 = .ok (.getfield 11, 3) := by decide +kernel
theorem dX11_birth_18 : decode cX11_birth 18 = .ok (.iload_n 1, 1) := by decide +kernel
theorem dX11_birth_19 : decode cX11_birth 19 = .ok (.iaload, 1) := by decide +kernel
theorem dX11_birth_20 : decode cX11_birth 20 = .ok (.goto 46, 3) := by decide +kernel
theorem dX11_birth_23 : decode cX11_birth 23 = .ok (.iload_n 2, 1) := by decide +kernel
theorem dX11_birth_24 : decode cX11_birth 24 = .ok (.iconst 1, 1) := by decide +kernel
theorem dX11_birth_25 : decode cX11_birth 25 = .ok (.if_icmp .ne 12, 3) := by decide +kernel
theorem dX11_birth_28 : decode cX11_birth 28 = .ok (.aload_n 0, 1) := by decide +kernel
theorem dX11_birth_29 : decode cX11_birth 29 = .ok (.getfield 15, 3) := by decide +kernel
theorem dX11_birth_32 : decode cX11_birth 32 = .ok (.iload_n 1, 1) := by decide +kernel
theorem dX11_birth_33 : decode cX11_birth 33 = .ok (.iaload, 1) := by decide +kernel
theorem dX11_birth_34 : decode cX11_birth 34 = .ok (.goto 32, 3) := by decide +kernel
theorem dX11_birth_37 : decode cX11_birth 37 = .ok (.iload_n 2, 1) := by decide +kernel
theorem dX11_birth_38 : decode cX11_birth 38 = .ok (.iconst 2, 1) := by decide +kernel
theorem dX11_birth_39 : decode cX11_birth 39 = .ok (.if_icmp .ne 12, 3) := by decide +kernel
theorem dX11_birth_42 : decode cX11_birth 42 = .ok (.aload_n 0, 1) := by decide +kernel
theorem dX11_birth_43 : decode cX11_birth 43 = .ok (.getfield 18, 3) := by decide +kernel
theorem dX11_birth_46 : decode cX11_birth 46 = .ok (.iload_n 1, 1) := by decide +kernel
theorem dX11_birth_47 : decode cX11_birth 47 = .ok (.iaload, 1) := by decide +kernel
theorem dX11_birth_48 : decode cX11_birth 48 = .ok (.goto 18, 3) := by decide +kernel
theorem dX11_birth_51 : decode cX11_birth 51 = .ok (.iload_n 2, 1) := by decide +kernel
theorem dX11_birth_52 : decode cX11_birth 52 = .ok (.iconst 3, 1) := by decide +kernel
theorem dX11_birth_53 : decode cX11_birth 53 = .ok (.if_icmp .ne 12, 3) := by decide +kernel
theorem dX11_birth_56 : decode cX11_birth 56 = .ok (.aload_n 0, 1) := by decide +kernel
theorem dX11_birth_57 : decode cX11_birth 57 = .ok (.getfield 21, 3) := by decide +kernel
theorem dX11_birth_60 : decode cX11_birth 60 = .ok (.iload_n 1, 1) := by decide +kernel
theorem dX11_birth_61 : decode cX11_birth 61 = .ok (.iaload, 1) := by decide +kernel
theorem dX11_birth_62 : decode cX11_birth 62 = .ok (.goto 4, 3) := by decide +kernel
theorem dX11_birth_65 : decode cX11_birth 65 = .ok (.iconst (-1), 1) := by decide +kernel
theorem dX11_birth_66 : decode cX11_birth 66 = .ok (.ireturn, 1) := by decide +kernel
set_option maxRecDepth 100000 in
theorem c_M_birth (σ : MS) (p0 : Int32) (p1 : Int32) : Ct z (wM z τ) rI eqA yX11_birth cX11_birth 3 (some .int) 3 0 0 [.ref 0, .int p0, .int p1] σ ((M_birth σ p0 p1).map fun r => (r, σ)) := by
  refine Ct.of (by decide) (Nat.le_of_ble_eq_true rfl) (fun ad x hC hR _ => ?_)
  show AT z x 3 (wM z τ) rI (eqA ad) 0 0 0 0 ad 0 [(0, .ref 0), (1, .int p0), (2, .int p1)] [] σ ((M_birth σ p0 p1).map fun r => (r, σ))
  unfold M_birth
  refine at_aload_n (j := 0) hC rfl rfl dX11_birth_0 ?_
  refine at_iload_n (j := 1) hC rfl rfl dX11_birth_1 ?_
  refine ap_callVI hC hR lk_X11_133 (c_M_isPerson σ p0) dX11_birth_2 recX11 rfl rfl ⟨by decide, by decide⟩ (Nat.le_of_ble_eq_true rfl) ⟨Nat.le_refl 0, Nat.le_refl 0⟩ (fun r1 _ => ?_)
  refine ap_if_ne (tgt := 10) hC dX11_birth_5 rfl (fun _ => ?_) (fun _ => ?_)
  · refine at_iload_n (j := 2) hC rfl rfl dX11_birth_10 ?_
    refine ap_if_ne (tgt := 23) hC dX11_birth_11 rfl (fun _ => ?_) (fun _ => ?_)
    · refine at_iload_n (j := 2) hC rfl rfl dX11_birth_23 ?_
      refine at_iconst hC ic_1 dX11_birth_24 ?_
      refine ap_icmp_ne (tgt := 37) hC dX11_birth_25 rfl (fun _ => ?_) (fun _ => ?_)
      · refine at_iload_n (j := 2) hC rfl rfl dX11_birth_37 ?_
        refine at_iconst hC ic_2 dX11_birth_38 ?_
        refine ap_icmp_ne (tgt := 51) hC dX11_birth_39 rfl (fun _ => ?_) (fun _ => ?_)
        · refine at_iload_n (j := 2) hC rfl rfl dX11_birth_51 ?_
          refine at_iconst hC ic_3 dX11_birth_52 ?_
          refine ap_icmp_ne (tgt := 65) hC dX11_birth_53 rfl (fun _ => ?_) (fun _ => ?_)
          · refine at_iconst hC ic_m1 dX11_birth_65 ?_
            exact at_iret (F := eqA ad) (ra := rI) hC dX11_birth_66 rfl (Nat.le_refl 0) (Nat.le_refl 0) rfl
          · refine at_aload_n (j := 0) hC rfl rfl dX11_birth_56 ?_
            refine gf_X11_21 hC dX11_birth_57 ?_
            refine at_iload_n (j := 1) hC rfl rfl dX11_birth_60 ?_
            refine ap_iald hC 4 dX11_birth_61 cl_4 (fun v2 => ?_)
            refine at_goto (tgt := 66) hC dX11_birth_62 rfl ?_
            exact at_iret (F := eqA ad) (ra := rI) hC dX11_birth_66 rfl (Nat.le_refl 0) (Nat.le_refl 0) rfl
        · refine at_aload_n (j := 0) hC rfl rfl dX11_birth_42 ?_
          refine gf_X11_18 hC dX11_birth_43 ?_
          refine at_iload_n (j := 1) hC rfl rfl dX11_birth_46 ?_
          refine ap_iald hC 3 dX11_birth_47 cl_3 (fun v3 => ?_)
          refine at_goto (tgt := 66) hC dX11_birth_48 rfl ?_
          exact at_iret (F := eqA ad) (ra := rI) hC dX11_birth_66 rfl (Nat.le_refl 0) (Nat.le_refl 0) rfl
      · refine at_aload_n (j := 0) hC rfl rfl dX11_birth_28 ?_
        refine gf_X11_15 hC dX11_birth_29 ?_
        refine at_iload_n (j := 1) hC rfl rfl dX11_birth_32 ?_
        refine ap_iald hC 2 dX11_birth_33 cl_2 (fun v4 => ?_)
        refine at_goto (tgt := 66) hC dX11_birth_34 rfl ?_
        exact at_iret (F := eqA ad) (ra := rI) hC dX11_birth_66 rfl (Nat.le_refl 0) (Nat.le_refl 0) rfl
    · refine at_aload_n (j := 0) hC rfl rfl dX11_birth_14 ?_
      refine gf_X11_11 hC dX11_birth_15 ?_
      refine at_iload_n (j := 1) hC rfl rfl dX11_birth_18 ?_
      refine ap_iald hC 1 dX11_birth_19 cl_1 (fun v5 => ?_)
      refine at_goto (tgt := 66) hC dX11_birth_20 rfl ?_
      exact at_iret (F := eqA ad) (ra := rI) hC dX11_birth_66 rfl (Nat.le_refl 0) (Nat.le_refl 0) rfl
  · refine at_iconst hC ic_m1 dX11_birth_8 ?_
    exact at_iret (F := eqA ad) (ra := rI) hC dX11_birth_9 rfl (Nat.le_refl 0) (Nat.le_refl 0) rfl
theorem dX11_tells_0 : decode cX11_tells 0 = .ok (.aload_n 0, 1) := by decide +kernel
theorem dX11_tells_1 : decode cX11_tells 1 = .ok (.getfield 137, 3) := by decide +kernel
theorem dX11_tells_4 : decode cX11_tells 4 = .ok (.sipush 200, 3) := by decide +kernel
theorem dX11_tells_7 : decode cX11_tells 7 = .ok (.if_icmp .ne 6, 3) := by decide +kernel
theorem dX11_tells_10 : decode cX11_tells 10 = .ok (.bipush (-4), 2) := by decide +kernel
theorem dX11_tells_12 : decode cX11_tells 12 = .ok (.ireturn, 1) := by decide +kernel
theorem dX11_tells_13 : decode cX11_tells 13 = .ok (.aload_n 0, 1) := by decide +kernel
theorem dX11_tells_14 : decode cX11_tells 14 = .ok (.getfield 24, 3) := by decide +kernel
theorem dX11_tells_17 : decode cX11_tells 17 = .ok (.aload_n 0, 1) := by decide +kernel
theorem dX11_tells_18 : decode cX11_tells 18 = .ok (.getfield 137, 3) := by decide +kernel
theorem dX11_tells_21 : decode cX11_tells 21 = .ok (.iload_n 1, 1) := by decide +kernel
theorem dX11_tells_22 : decode cX11_tells 22 = .ok (.iastore, 1) := by decide +kernel
theorem dX11_tells_23 : decode cX11_tells 23 = .ok (.aload_n 0, 1) := by decide +kernel
theorem dX11_tells_24 : decode cX11_tells 24 = .ok (.getfield 27, 3) := by decide +kernel
theorem dX11_tells_27 : decode cX11_tells 27 = .ok (.aload_n 0, 1) := by decide +kernel
theorem dX11_tells_28 : decode cX11_tells 28 = .ok (.getfield 137, 3) := by decide +kernel
theorem dX11_tells_31 : decode cX11_tells 31 = .ok (.iload_n 2, 1) := by decide +kernel
theorem dX11_tells_32 : decode cX11_tells 32 = .ok (.iastore, 1) := by decide +kernel
theorem dX11_tells_33 : decode cX11_tells 33 = .ok (.aload_n 0, 1) := by decide +kernel
theorem dX11_tells_34 : decode cX11_tells 34 = .ok (.getfield 30, 3) := by decide +kernel
theorem dX11_tells_37 : decode cX11_tells 37 = .ok (.aload_n 0, 1) := by decide +kernel
theorem dX11_tells_38 : decode cX11_tells 38 = .ok (.getfield 137, 3) := by decide +kernel
theorem dX11_tells_41 : decode cX11_tells 41 = .ok (.iload_n 3, 1) := by decide +kernel
theorem dX11_tells_42 : decode cX11_tells 42 = .ok (.iastore, 1) := by decide +kernel
theorem dX11_tells_43 : decode cX11_tells 43 = .ok (.aload_n 0, 1) := by decide +kernel
theorem dX11_tells_44 : decode cX11_tells 44 = .ok (.getfield 33, 3) := by decide +kernel
theorem dX11_tells_47 : decode cX11_tells 47 = .ok (.aload_n 0, 1) := by decide +kernel
theorem dX11_tells_48 : decode cX11_tells 48 = .ok (.getfield 137, 3) := by decide +kernel
theorem dX11_tells_51 : decode cX11_tells 51 = .ok (.iload 4, 2) := by decide +kernel
theorem dX11_tells_53 : decode cX11_tells 53 = .ok (.iastore, 1) := by decide +kernel
theorem dX11_tells_54 : decode cX11_tells 54 = .ok (.aload_n 0, 1) := by decide +kernel
theorem dX11_tells_55 : decode cX11_tells 55 = .ok (.getfield 36, 3) := by decide +kernel
theorem dX11_tells_58 : decode cX11_tells 58 = .ok (.aload_n 0, 1) := by decide +kernel
theorem dX11_tells_59 : decode cX11_tells 59 = .ok (.getfield 137, 3) := by decide +kernel
theorem dX11_tells_62 : decode cX11_tells 62 = .ok (.iload 5, 2) := by decide +kernel
theorem dX11_tells_64 : decode cX11_tells 64 = .ok (.iastore, 1) := by decide +kernel
theorem dX11_tells_65 : decode cX11_tells 65 = .ok (.aload_n 0, 1) := by decide +kernel
theorem dX11_tells_66 : decode cX11_tells 66 = .ok (.dup, 1) := by decide +kernel
theorem dX11_tells_67 : decode cX11_tells 67 = .ok (.getfield 168, 3) := by decide +kernel
theorem dX11_tells_70 : decode cX11_tells 70 = .ok (.iload_n 1, 1) := by decide +kernel
theorem dX11_tells_71 : decode cX11_tells 71 = .ok (.iconst 2, 1) := by decide +kernel
theorem dX11_tells_72 : decode cX11_tells 72 = .ok (.if_icmp .ne 7, 3) := by decide +kernel
theorem dX11_tells_75 : decode cX11_tells 75 = .ok (.iconst 1, 1) := by decide +kernel
theorem dX11_tells_76 : decode cX11_tells 76 = .ok (.goto 4, 3) := by decide +kernel
theorem dX11_tells_79 : decode cX11_tells 79 = .ok (.iconst 0, 1) := by decide +kernel
theorem dX11_tells_80 : decode cX11_tells 80 = .ok (.iadd, 1) := by decide +kernel
theorem dX11_tells_81 : decode cX11_tells 81 = .ok (.putfield 168, 3) := by decide +kernel
theorem dX11_tells_84 : decode cX11_tells 84 = .ok (.aload_n 0, 1) := by decide +kernel
theorem dX11_tells_85 : decode cX11_tells 85 = .ok (.dup, 1) := by decide +kernel
theorem dX11_tells_86 : decode cX11_tells 86 = .ok (.getfield 137, 3) := by decide +kernel
theorem dX11_tells_89 : decode cX11_tells 89 = .ok (.iconst 1, 1) := by decide +kernel
theorem dX11_tells_90 : decode cX11_tells 90 = .ok (.iadd, 1) := by decide +kernel
theorem dX11_tells_91 : decode cX11_tells 91 = .ok (.putfield 137, 3) := by decide +kernel
theorem dX11_tells_94 : decode cX11_tells 94 = .ok (.aload_n 0, 1) := by decide +kernel
theorem dX11_tells_95 : decode cX11_tells 95 = .ok (.getfield 137, 3) := by decide +kernel
theorem dX11_tells_98 : decode cX11_tells 98 = .ok (.iconst 1, 1) := by decide +kernel
theorem dX11_tells_99 : decode cX11_tells 99 = .ok (.isub, 1) := by decide +kernel
theorem dX11_tells_100 : decode cX11_tells 100 = .ok (.ireturn, 1) := by decide +kernel
set_option maxRecDepth 100000 in
theorem t_M_tells_J80 (hC : CX z ad x cX11_tells RX11 6 (some .int)) (hR : x.2.2.1 = rmk 1 0 0) (σ : MS) (s0 : Int32) (s1 : Int32) : AT z x 6 (wM z τ) rI (eqA ad) 0 0 0 0 ad 80 [(0, .ref 0)] [.int s0, .int s1, .ref 0] σ (M_tells_J80 σ s0 s1) := by
  unfold M_tells_J80
  refine at_iadd hC dX11_tells_80 ?_
  refine pf_X11_168 hC dX11_tells_81 ?_
  refine at_aload_n (j := 0) hC rfl rfl dX11_tells_84 ?_
  refine at_dup hC rfl dX11_tells_85 ?_
  refine gf_X11_137 hC dX11_tells_86 ?_
  refine at_iconst hC ic_1 dX11_tells_89 ?_
  refine at_iadd hC dX11_tells_90 ?_
  refine pf_X11_137 hC dX11_tells_91 ?_
  refine at_aload_n (j := 0) hC rfl rfl dX11_tells_94 ?_
  refine gf_X11_137 hC dX11_tells_95 ?_
  refine at_iconst hC ic_1 dX11_tells_98 ?_
  refine at_isub hC dX11_tells_99 ?_
  exact at_iret (F := eqA ad) (ra := rI) hC dX11_tells_100 rfl (Nat.le_refl 0) (Nat.le_refl 0) rfl
set_option maxRecDepth 100000 in
theorem c_M_tells (σ : MS) (p0 : Int32) (p1 : Int32) (p2 : Int32) (p3 : Int32) (p4 : Int32) : Ct z (wM z τ) rI eqA yX11_tells cX11_tells 6 (some .int) 1 0 0 [.ref 0, .int p0, .int p1, .int p2, .int p3, .int p4] σ (M_tells σ p0 p1 p2 p3 p4) := by
  refine Ct.of (by decide) (Nat.le_of_ble_eq_true rfl) (fun ad x hC hR _ => ?_)
  show AT z x 6 (wM z τ) rI (eqA ad) 0 0 0 0 ad 0 [(0, .ref 0), (1, .int p0), (2, .int p1), (3, .int p2), (4, .int p3), (5, .int p4)] [] σ (M_tells σ p0 p1 p2 p3 p4)
  unfold M_tells
  refine at_aload_n (j := 0) hC rfl rfl dX11_tells_0 ?_
  refine gf_X11_137 hC dX11_tells_1 ?_
  refine at_sipush hC si_200 dX11_tells_4 ?_
  refine at_icmp_ne (tgt := 13) hC dX11_tells_7 rfl (fun _ => ?_) (fun _ => ?_)
  · refine at_aload_n (j := 0) hC rfl rfl dX11_tells_13 ?_
    refine gf_X11_24 hC dX11_tells_14 ?_
    refine at_aload_n (j := 0) hC rfl rfl dX11_tells_17 ?_
    refine gf_X11_137 hC dX11_tells_18 ?_
    refine at_iload_n (j := 1) hC rfl rfl dX11_tells_21 ?_
    refine at_iast hC 5 dX11_tells_22 cl_5 st_5 ?_
    refine at_aload_n (j := 0) hC rfl rfl dX11_tells_23 ?_
    refine gf_X11_27 hC dX11_tells_24 ?_
    refine at_aload_n (j := 0) hC rfl rfl dX11_tells_27 ?_
    refine gf_X11_137 hC dX11_tells_28 ?_
    refine at_iload_n (j := 2) hC rfl rfl dX11_tells_31 ?_
    refine at_iast hC 6 dX11_tells_32 cl_6 st_6 ?_
    refine at_aload_n (j := 0) hC rfl rfl dX11_tells_33 ?_
    refine gf_X11_30 hC dX11_tells_34 ?_
    refine at_aload_n (j := 0) hC rfl rfl dX11_tells_37 ?_
    refine gf_X11_137 hC dX11_tells_38 ?_
    refine at_iload_n (j := 3) hC rfl rfl dX11_tells_41 ?_
    refine at_iast hC 7 dX11_tells_42 cl_7 st_7 ?_
    refine at_aload_n (j := 0) hC rfl rfl dX11_tells_43 ?_
    refine gf_X11_33 hC dX11_tells_44 ?_
    refine at_aload_n (j := 0) hC rfl rfl dX11_tells_47 ?_
    refine gf_X11_137 hC dX11_tells_48 ?_
    refine at_iload (j := 4) hC rfl dX11_tells_51 ?_
    refine at_iast hC 8 dX11_tells_53 cl_8 st_8 ?_
    refine at_aload_n (j := 0) hC rfl rfl dX11_tells_54 ?_
    refine gf_X11_36 hC dX11_tells_55 ?_
    refine at_aload_n (j := 0) hC rfl rfl dX11_tells_58 ?_
    refine gf_X11_137 hC dX11_tells_59 ?_
    refine at_iload (j := 5) hC rfl dX11_tells_62 ?_
    refine at_iast hC 9 dX11_tells_64 cl_9 st_9 ?_
    refine at_aload_n (j := 0) hC rfl rfl dX11_tells_65 ?_
    refine at_dup hC rfl dX11_tells_66 ?_
    refine gf_X11_168 hC dX11_tells_67 ?_
    refine at_iload_n (j := 1) hC rfl rfl dX11_tells_70 ?_
    refine at_iconst hC ic_2 dX11_tells_71 ?_
    refine at_icmp_ne (tgt := 79) hC dX11_tells_72 rfl (fun _ => ?_) (fun _ => ?_)
    · refine at_iconst hC ic_0 dX11_tells_79 ?_
      refine at_drop (lv' := [(0, .ref 0)]) [0] rfl ?_
      exact t_M_tells_J80 hC hR (sA (sA (sA (sA (sA σ 8 (upd (σ.2.1 8) (σ.1 7).toNatClampNeg p0)) 9 (upd ((sA σ 8 (upd (σ.2.1 8) (σ.1 7).toNatClampNeg p0)).2.1 9) ((sA σ 8 (upd (σ.2.1 8) (σ.1 7).toNatClampNeg p0)).1 7).toNatClampNeg p1)) 10 (upd ((sA (sA σ 8 (upd (σ.2.1 8) (σ.1 7).toNatClampNeg p0)) 9 (upd ((sA σ 8 (upd (σ.2.1 8) (σ.1 7).toNatClampNeg p0)).2.1 9) ((sA σ 8 (upd (σ.2.1 8) (σ.1 7).toNatClampNeg p0)).1 7).toNatClampNeg p1)).2.1 10) ((sA (sA σ 8 (upd (σ.2.1 8) (σ.1 7).toNatClampNeg p0)) 9 (upd ((sA σ 8 (upd (σ.2.1 8) (σ.1 7).toNatClampNeg p0)).2.1 9) ((sA σ 8 (upd (σ.2.1 8) (σ.1 7).toNatClampNeg p0)).1 7).toNatClampNeg p1)).1 7).toNatClampNeg p2)) 11 (upd ((sA (sA (sA σ 8 (upd (σ.2.1 8) (σ.1 7).toNatClampNeg p0)) 9 (upd ((sA σ 8 (upd (σ.2.1 8) (σ.1 7).toNatClampNeg p0)).2.1 9) ((sA σ 8 (upd (σ.2.1 8) (σ.1 7).toNatClampNeg p0)).1 7).toNatClampNeg p1)) 10 (upd ((sA (sA σ 8 (upd (σ.2.1 8) (σ.1 7).toNatClampNeg p0)) 9 (upd ((sA σ 8 (upd (σ.2.1 8) (σ.1 7).toNatClampNeg p0)).2.1 9) ((sA σ 8 (upd (σ.2.1 8) (σ.1 7).toNatClampNeg p0)).1 7).toNatClampNeg p1)).2.1 10) ((sA (sA σ 8 (upd (σ.2.1 8) (σ.1 7).toNatClampNeg p0)) 9 (upd ((sA σ 8 (upd (σ.2.1 8) (σ.1 7).toNatClampNeg p0)).2.1 9) ((sA σ 8 (upd (σ.2.1 8) (σ.1 7).toNatClampNeg p0)).1 7).toNatClampNeg p1)).1 7).toNatClampNeg p2)).2.1 11) ((sA (sA (sA σ 8 (upd (σ.2.1 8) (σ.1 7).toNatClampNeg p0)) 9 (upd ((sA σ 8 (upd (σ.2.1 8) (σ.1 7).toNatClampNeg p0)).2.1 9) ((sA σ 8 (upd (σ.2.1 8) (σ.1 7).toNatClampNeg p0)).1 7).toNatClampNeg p1)) 10 (upd ((sA (sA σ 8 (upd (σ.2.1 8) (σ.1 7).toNatClampNeg p0)) 9 (upd ((sA σ 8 (upd (σ.2.1 8) (σ.1 7).toNatClampNeg p0)).2.1 9) ((sA σ 8 (upd (σ.2.1 8) (σ.1 7).toNatClampNeg p0)).1 7).toNatClampNeg p1)).2.1 10) ((sA (sA σ 8 (upd (σ.2.1 8) (σ.1 7).toNatClampNeg p0)) 9 (upd ((sA σ 8 (upd (σ.2.1 8) (σ.1 7).toNatClampNeg p0)).2.1 9) ((sA σ 8 (upd (σ.2.1 8) (σ.1 7).toNatClampNeg p0)).1 7).toNatClampNeg p1)).1 7).toNatClampNeg p2)).1 7).toNatClampNeg p3)) 12 (upd ((sA (sA (sA (sA σ 8 (upd (σ.2.1 8) (σ.1 7).toNatClampNeg p0)) 9 (upd ((sA σ 8 (upd (σ.2.1 8) (σ.1 7).toNatClampNeg p0)).2.1 9) ((sA σ 8 (upd (σ.2.1 8) (σ.1 7).toNatClampNeg p0)).1 7).toNatClampNeg p1)) 10 (upd ((sA (sA σ 8 (upd (σ.2.1 8) (σ.1 7).toNatClampNeg p0)) 9 (upd ((sA σ 8 (upd (σ.2.1 8) (σ.1 7).toNatClampNeg p0)).2.1 9) ((sA σ 8 (upd (σ.2.1 8) (σ.1 7).toNatClampNeg p0)).1 7).toNatClampNeg p1)).2.1 10) ((sA (sA σ 8 (upd (σ.2.1 8) (σ.1 7).toNatClampNeg p0)) 9 (upd ((sA σ 8 (upd (σ.2.1 8) (σ.1 7).toNatClampNeg p0)).2.1 9) ((sA σ 8 (upd (σ.2.1 8) (σ.1 7).toNatClampNeg p0)).1 7).toNatClampNeg p1)).1 7).toNatClampNeg p2)) 11 (upd ((sA (sA (sA σ 8 (upd (σ.2.1 8) (σ.1 7).toNatClampNeg p0)) 9 (upd ((sA σ 8 (upd (σ.2.1 8) (σ.1 7).toNatClampNeg p0)).2.1 9) ((sA σ 8 (upd (σ.2.1 8) (σ.1 7).toNatClampNeg p0)).1 7).toNatClampNeg p1)) 10 (upd ((sA (sA σ 8 (upd (σ.2.1 8) (σ.1 7).toNatClampNeg p0)) 9 (upd ((sA σ 8 (upd (σ.2.1 8) (σ.1 7).toNatClampNeg p0)).2.1 9) ((sA σ 8 (upd (σ.2.1 8) (σ.1 7).toNatClampNeg p0)).1 7).toNatClampNeg p1)).2.1 10) ((sA (sA σ 8 (upd (σ.2.1 8) (σ.1 7).toNatClampNeg p0)) 9 (upd ((sA σ 8 (upd (σ.2.1 8) (σ.1 7).toNatClampNeg p0)).2.1 9) ((sA σ 8 (upd (σ.2.1 8) (σ.1 7).toNatClampNeg p0)).1 7).toNatClampNeg p1)).1 7).toNatClampNeg p2)).2.1 11) ((sA (sA (sA σ 8 (upd (σ.2.1 8) (σ.1 7).toNatClampNeg p0)) 9 (upd ((sA σ 8 (upd (σ.2.1 8) (σ.1 7).toNatClampNeg p0)).2.1 9) ((sA σ 8 (upd (σ.2.1 8) (σ.1 7).toNatClampNeg p0)).1 7).toNatClampNeg p1)) 10 (upd ((sA (sA σ 8 (upd (σ.2.1 8) (σ.1 7).toNatClampNeg p0)) 9 (upd ((sA σ 8 (upd (σ.2.1 8) (σ.1 7).toNatClampNeg p0)).2.1 9) ((sA σ 8 (upd (σ.2.1 8) (σ.1 7).toNatClampNeg p0)).1 7).toNatClampNeg p1)).2.1 10) ((sA (sA σ 8 (upd (σ.2.1 8) (σ.1 7).toNatClampNeg p0)) 9 (upd ((sA σ 8 (upd (σ.2.1 8) (σ.1 7).toNatClampNeg p0)).2.1 9) ((sA σ 8 (upd (σ.2.1 8) (σ.1 7).toNatClampNeg p0)).1 7).toNatClampNeg p1)).1 7).toNatClampNeg p2)).1 7).toNatClampNeg p3)).2.1 12) ((sA (sA (sA (sA σ 8 (upd (σ.2.1 8) (σ.1 7).toNatClampNeg p0)) 9 (upd ((sA σ 8 (upd (σ.2.1 8) (σ.1 7).toNatClampNeg p0)).2.1 9) ((sA σ 8 (upd (σ.2.1 8) (σ.1 7).toNatClampNeg p0)).1 7).toNatClampNeg p1)) 10 (upd ((sA (sA σ 8 (upd (σ.2.1 8) (σ.1 7).toNatClampNeg p0)) 9 (upd ((sA σ 8 (upd (σ.2.1 8) (σ.1 7).toNatClampNeg p0)).2.1 9) ((sA σ 8 (upd (σ.2.1 8) (σ.1 7).toNatClampNeg p0)).1 7).toNatClampNeg p1)).2.1 10) ((sA (sA σ 8 (upd (σ.2.1 8) (σ.1 7).toNatClampNeg p0)) 9 (upd ((sA σ 8 (upd (σ.2.1 8) (σ.1 7).toNatClampNeg p0)).2.1 9) ((sA σ 8 (upd (σ.2.1 8) (σ.1 7).toNatClampNeg p0)).1 7).toNatClampNeg p1)).1 7).toNatClampNeg p2)) 11 (upd ((sA (sA (sA σ 8 (upd (σ.2.1 8) (σ.1 7).toNatClampNeg p0)) 9 (upd ((sA σ 8 (upd (σ.2.1 8) (σ.1 7).toNatClampNeg p0)).2.1 9) ((sA σ 8 (upd (σ.2.1 8) (σ.1 7).toNatClampNeg p0)).1 7).toNatClampNeg p1)) 10 (upd ((sA (sA σ 8 (upd (σ.2.1 8) (σ.1 7).toNatClampNeg p0)) 9 (upd ((sA σ 8 (upd (σ.2.1 8) (σ.1 7).toNatClampNeg p0)).2.1 9) ((sA σ 8 (upd (σ.2.1 8) (σ.1 7).toNatClampNeg p0)).1 7).toNatClampNeg p1)).2.1 10) ((sA (sA σ 8 (upd (σ.2.1 8) (σ.1 7).toNatClampNeg p0)) 9 (upd ((sA σ 8 (upd (σ.2.1 8) (σ.1 7).toNatClampNeg p0)).2.1 9) ((sA σ 8 (upd (σ.2.1 8) (σ.1 7).toNatClampNeg p0)).1 7).toNatClampNeg p1)).1 7).toNatClampNeg p2)).2.1 11) ((sA (sA (sA σ 8 (upd (σ.2.1 8) (σ.1 7).toNatClampNeg p0)) 9 (upd ((sA σ 8 (upd (σ.2.1 8) (σ.1 7).toNatClampNeg p0)).2.1 9) ((sA σ 8 (upd (σ.2.1 8) (σ.1 7).toNatClampNeg p0)).1 7).toNatClampNeg p1)) 10 (upd ((sA (sA σ 8 (upd (σ.2.1 8) (σ.1 7).toNatClampNeg p0)) 9 (upd ((sA σ 8 (upd (σ.2.1 8) (σ.1 7).toNatClampNeg p0)).2.1 9) ((sA σ 8 (upd (σ.2.1 8) (σ.1 7).toNatClampNeg p0)).1 7).toNatClampNeg p1)).2.1 10) ((sA (sA σ 8 (upd (σ.2.1 8) (σ.1 7).toNatClampNeg p0)) 9 (upd ((sA σ 8 (upd (σ.2.1 8) (σ.1 7).toNatClampNeg p0)).2.1 9) ((sA σ 8 (upd (σ.2.1 8) (σ.1 7).toNatClampNeg p0)).1 7).toNatClampNeg p1)).1 7).toNatClampNeg p2)).1 7).toNatClampNeg p3)).1 7).toNatClampNeg p4)) 0 ((sA (sA (sA (sA (sA σ 8 (upd (σ.2.1 8) (σ.1 7).toNatClampNeg p0)) 9 (upd ((sA σ 8 (upd (σ.2.1 8) (σ.1 7).toNatClampNeg p0)).2.1 9) ((sA σ 8 (upd (σ.2.1 8) (σ.1 7).toNatClampNeg p0)).1 7).toNatClampNeg p1)) 10 (upd ((sA (sA σ 8 (upd (σ.2.1 8) (σ.1 7).toNatClampNeg p0)) 9 (upd ((sA σ 8 (upd (σ.2.1 8) (σ.1 7).toNatClampNeg p0)).2.1 9) ((sA σ 8 (upd (σ.2.1 8) (σ.1 7).toNatClampNeg p0)).1 7).toNatClampNeg p1)).2.1 10) ((sA (sA σ 8 (upd (σ.2.1 8) (σ.1 7).toNatClampNeg p0)) 9 (upd ((sA σ 8 (upd (σ.2.1 8) (σ.1 7).toNatClampNeg p0)).2.1 9) ((sA σ 8 (upd (σ.2.1 8) (σ.1 7).toNatClampNeg p0)).1 7).toNatClampNeg p1)).1 7).toNatClampNeg p2)) 11 (upd ((sA (sA (sA σ 8 (upd (σ.2.1 8) (σ.1 7).toNatClampNeg p0)) 9 (upd ((sA σ 8 (upd (σ.2.1 8) (σ.1 7).toNatClampNeg p0)).2.1 9) ((sA σ 8 (upd (σ.2.1 8) (σ.1 7).toNatClampNeg p0)).1 7).toNatClampNeg p1)) 10 (upd ((sA (sA σ 8 (upd (σ.2.1 8) (σ.1 7).toNatClampNeg p0)) 9 (upd ((sA σ 8 (upd (σ.2.1 8) (σ.1 7).toNatClampNeg p0)).2.1 9) ((sA σ 8 (upd (σ.2.1 8) (σ.1 7).toNatClampNeg p0)).1 7).toNatClampNeg p1)).2.1 10) ((sA (sA σ 8 (upd (σ.2.1 8) (σ.1 7).toNatClampNeg p0)) 9 (upd ((sA σ 8 (upd (σ.2.1 8) (σ.1 7).toNatClampNeg p0)).2.1 9) ((sA σ 8 (upd (σ.2.1 8) (σ.1 7).toNatClampNeg p0)).1 7).toNatClampNeg p1)).1 7).toNatClampNeg p2)).2.1 11) ((sA (sA (sA σ 8 (upd (σ.2.1 8) (σ.1 7).toNatClampNeg p0)) 9 (upd ((sA σ 8 (upd (σ.2.1 8) (σ.1 7).toNatClampNeg p0)).2.1 9) ((sA σ 8 (upd (σ.2.1 8) (σ.1 7).toNatClampNeg p0)).1 7).toNatClampNeg p1)) 10 (upd ((sA (sA σ 8 (upd (σ.2.1 8) (σ.1 7).toNatClampNeg p0)) 9 (upd ((sA σ 8 (upd (σ.2.1 8) (σ.1 7).toNatClampNeg p0)).2.1 9) ((sA σ 8 (upd (σ.2.1 8) (σ.1 7).toNatClampNeg p0)).1 7).toNatClampNeg p1)).2.1 10) ((sA (sA σ 8 (upd (σ.2.1 8) (σ.1 7).toNatClampNeg p0)) 9 (upd ((sA σ 8 (upd (σ.2.1 8) (σ.1 7).toNatClampNeg p0)).2.1 9) ((sA σ 8 (upd (σ.2.1 8) (σ.1 7).toNatClampNeg p0)).1 7).toNatClampNeg p1)).1 7).toNatClampNeg p2)).1 7).toNatClampNeg p3)) 12 (upd ((sA (sA (sA (sA σ 8 (upd (σ.2.1 8) (σ.1 7).toNatClampNeg p0)) 9 (upd ((sA σ 8 (upd (σ.2.1 8) (σ.1 7).toNatClampNeg p0)).2.1 9) ((sA σ 8 (upd (σ.2.1 8) (σ.1 7).toNatClampNeg p0)).1 7).toNatClampNeg p1)) 10 (upd ((sA (sA σ 8 (upd (σ.2.1 8) (σ.1 7).toNatClampNeg p0)) 9 (upd ((sA σ 8 (upd (σ.2.1 8) (σ.1 7).toNatClampNeg p0)).2.1 9) ((sA σ 8 (upd (σ.2.1 8) (σ.1 7).toNatClampNeg p0)).1 7).toNatClampNeg p1)).2.1 10) ((sA (sA σ 8 (upd (σ.2.1 8) (σ.1 7).toNatClampNeg p0)) 9 (upd ((sA σ 8 (upd (σ.2.1 8) (σ.1 7).toNatClampNeg p0)).2.1 9) ((sA σ 8 (upd (σ.2.1 8) (σ.1 7).toNatClampNeg p0)).1 7).toNatClampNeg p1)).1 7).toNatClampNeg p2)) 11 (upd ((sA (sA (sA σ 8 (upd (σ.2.1 8) (σ.1 7).toNatClampNeg p0)) 9 (upd ((sA σ 8 (upd (σ.2.1 8) (σ.1 7).toNatClampNeg p0)).2.1 9) ((sA σ 8 (upd (σ.2.1 8) (σ.1 7).toNatClampNeg p0)).1 7).toNatClampNeg p1)) 10 (upd ((sA (sA σ 8 (upd (σ.2.1 8) (σ.1 7).toNatClampNeg p0)) 9 (upd ((sA σ 8 (upd (σ.2.1 8) (σ.1 7).toNatClampNeg p0)).2.1 9) ((sA σ 8 (upd (σ.2.1 8) (σ.1 7).toNatClampNeg p0)).1 7).toNatClampNeg p1)).2.1 10) ((sA (sA σ 8 (upd (σ.2.1 8) (σ.1 7).toNatClampNeg p0)) 9 (upd ((sA σ 8 (upd (σ.2.1 8) (σ.1 7).toNatClampNeg p0)).2.1 9) ((sA σ 8 (upd (σ.2.1 8) (σ.1 7).toNatClampNeg p0)).1 7).toNatClampNeg p1)).1 7).toNatClampNeg p2)).2.1 11) ((sA (sA (sA σ 8 (upd (σ.2.1 8) (σ.1 7).toNatClampNeg p0)) 9 (upd ((sA σ 8 (upd (σ.2.1 8) (σ.1 7).toNatClampNeg p0)).2.1 9) ((sA σ 8 (upd (σ.2.1 8) (σ.1 7).toNatClampNeg p0)).1 7).toNatClampNeg p1)) 10 (upd ((sA (sA σ 8 (upd (σ.2.1 8) (σ.1 7).toNatClampNeg p0)) 9 (upd ((sA σ 8 (upd (σ.2.1 8) (σ.1 7).toNatClampNeg p0)).2.1 9) ((sA σ 8 (upd (σ.2.1 8) (σ.1 7).toNatClampNeg p0)).1 7).toNatClampNeg p1)).2.1 10) ((sA (sA σ 8 (upd (σ.2.1 8) (σ.1 7).toNatClampNeg p0)) 9 (upd ((sA σ 8 (upd (σ.2.1 8) (σ.1 7).toNatClampNeg p0)).2.1 9) ((sA σ 8 (upd (σ.2.1 8) (σ.1 7).toNatClampNeg p0)).1 7).toNatClampNeg p1)).1 7).toNatClampNeg p2)).1 7).toNatClampNeg p3)).2.1 12) ((sA (sA (sA (sA σ 8 (upd (σ.2.1 8) (σ.1 7).toNatClampNeg p0)) 9 (upd ((sA σ 8 (upd (σ.2.1 8) (σ.1 7).toNatClampNeg p0)).2.1 9) ((sA σ 8 (upd (σ.2.1 8) (σ.1 7).toNatClampNeg p0)).1 7).toNatClampNeg p1)) 10 (upd ((sA (sA σ 8 (upd (σ.2.1 8) (σ.1 7).toNatClampNeg p0)) 9 (upd ((sA σ 8 (upd (σ.2.1 8) (σ.1 7).toNatClampNeg p0)).2.1 9) ((sA σ 8 (upd (σ.2.1 8) (σ.1 7).toNatClampNeg p0)).1 7).toNatClampNeg p1)).2.1 10) ((sA (sA σ 8 (upd (σ.2.1 8) (σ.1 7).toNatClampNeg p0)) 9 (upd ((sA σ 8 (upd (σ.2.1 8) (σ.1 7).toNatClampNeg p0)).2.1 9) ((sA σ 8 (upd (σ.2.1 8) (σ.1 7).toNatClampNeg p0)).1 7).toNatClampNeg p1)).1 7).toNatClampNeg p2)) 11 (upd ((sA (sA (sA σ 8 (upd (σ.2.1 8) (σ.1 7).toNatClampNeg p0)) 9 (upd ((sA σ 8 (upd (σ.2.1 8) (σ.1 7).toNatClampNeg p0)).2.1 9) ((sA σ 8 (upd (σ.2.1 8) (σ.1 7).toNatClampNeg p0)).1 7).toNatClampNeg p1)) 10 (upd ((sA (sA σ 8 (upd (σ.2.1 8) (σ.1 7).toNatClampNeg p0)) 9 (upd ((sA σ 8 (upd (σ.2.1 8) (σ.1 7).toNatClampNeg p0)).2.1 9) ((sA σ 8 (upd (σ.2.1 8) (σ.1 7).toNatClampNeg p0)).1 7).toNatClampNeg p1)).2.1 10) ((sA (sA σ 8 (upd (σ.2.1 8) (σ.1 7).toNatClampNeg p0)) 9 (upd ((sA σ 8 (upd (σ.2.1 8) (σ.1 7).toNatClampNeg p0)).2.1 9) ((sA σ 8 (upd (σ.2.1 8) (σ.1 7).toNatClampNeg p0)).1 7).toNatClampNeg p1)).1 7).toNatClampNeg p2)).2.1 11) ((sA (sA (sA σ 8 (upd (σ.2.1 8) (σ.1 7).toNatClampNeg p0)) 9 (upd ((sA σ 8 (upd (σ.2.1 8) (σ.1 7).toNatClampNeg p0)).2.1 9) ((sA σ 8 (upd (σ.2.1 8) (σ.1 7).toNatClampNeg p0)).1 7).toNatClampNeg p1)) 10 (upd ((sA (sA σ 8 (upd (σ.2.1 8) (σ.1 7).toNatClampNeg p0)) 9 (upd ((sA σ 8 (upd (σ.2.1 8) (σ.1 7).toNatClampNeg p0)).2.1 9) ((sA σ 8 (upd (σ.2.1 8) (σ.1 7).toNatClampNeg p0)).1 7).toNatClampNeg p1)).2.1 10) ((sA (sA σ 8 (upd (σ.2.1 8) (σ.1 7).toNatClampNeg p0)) 9 (upd ((sA σ 8 (upd (σ.2.1 8) (σ.1 7).toNatClampNeg p0)).2.1 9) ((sA σ 8 (upd (σ.2.1 8) (σ.1 7).toNatClampNeg p0)).1 7).toNatClampNeg p1)).1 7).toNatClampNeg p2)).1 7).toNatClampNeg p3)).1 7).toNatClampNeg p4)).1 13)
    · refine at_iconst hC ic_1 dX11_tells_75 ?_
      refine at_goto (tgt := 80) hC dX11_tells_76 rfl ?_
      refine at_drop (lv' := [(0, .ref 0)]) [0] rfl ?_
      exact t_M_tells_J80 hC hR (sA (sA (sA (sA (sA σ 8 (upd (σ.2.1 8) (σ.1 7).toNatClampNeg p0)) 9 (upd ((sA σ 8 (upd (σ.2.1 8) (σ.1 7).toNatClampNeg p0)).2.1 9) ((sA σ 8 (upd (σ.2.1 8) (σ.1 7).toNatClampNeg p0)).1 7).toNatClampNeg p1)) 10 (upd ((sA (sA σ 8 (upd (σ.2.1 8) (σ.1 7).toNatClampNeg p0)) 9 (upd ((sA σ 8 (upd (σ.2.1 8) (σ.1 7).toNatClampNeg p0)).2.1 9) ((sA σ 8 (upd (σ.2.1 8) (σ.1 7).toNatClampNeg p0)).1 7).toNatClampNeg p1)).2.1 10) ((sA (sA σ 8 (upd (σ.2.1 8) (σ.1 7).toNatClampNeg p0)) 9 (upd ((sA σ 8 (upd (σ.2.1 8) (σ.1 7).toNatClampNeg p0)).2.1 9) ((sA σ 8 (upd (σ.2.1 8) (σ.1 7).toNatClampNeg p0)).1 7).toNatClampNeg p1)).1 7).toNatClampNeg p2)) 11 (upd ((sA (sA (sA σ 8 (upd (σ.2.1 8) (σ.1 7).toNatClampNeg p0)) 9 (upd ((sA σ 8 (upd (σ.2.1 8) (σ.1 7).toNatClampNeg p0)).2.1 9) ((sA σ 8 (upd (σ.2.1 8) (σ.1 7).toNatClampNeg p0)).1 7).toNatClampNeg p1)) 10 (upd ((sA (sA σ 8 (upd (σ.2.1 8) (σ.1 7).toNatClampNeg p0)) 9 (upd ((sA σ 8 (upd (σ.2.1 8) (σ.1 7).toNatClampNeg p0)).2.1 9) ((sA σ 8 (upd (σ.2.1 8) (σ.1 7).toNatClampNeg p0)).1 7).toNatClampNeg p1)).2.1 10) ((sA (sA σ 8 (upd (σ.2.1 8) (σ.1 7).toNatClampNeg p0)) 9 (upd ((sA σ 8 (upd (σ.2.1 8) (σ.1 7).toNatClampNeg p0)).2.1 9) ((sA σ 8 (upd (σ.2.1 8) (σ.1 7).toNatClampNeg p0)).1 7).toNatClampNeg p1)).1 7).toNatClampNeg p2)).2.1 11) ((sA (sA (sA σ 8 (upd (σ.2.1 8) (σ.1 7).toNatClampNeg p0)) 9 (upd ((sA σ 8 (upd (σ.2.1 8) (σ.1 7).toNatClampNeg p0)).2.1 9) ((sA σ 8 (upd (σ.2.1 8) (σ.1 7).toNatClampNeg p0)).1 7).toNatClampNeg p1)) 10 (upd ((sA (sA σ 8 (upd (σ.2.1 8) (σ.1 7).toNatClampNeg p0)) 9 (upd ((sA σ 8 (upd (σ.2.1 8) (σ.1 7).toNatClampNeg p0)).2.1 9) ((sA σ 8 (upd (σ.2.1 8) (σ.1 7).toNatClampNeg p0)).1 7).toNatClampNeg p1)).2.1 10) ((sA (sA σ 8 (upd (σ.2.1 8) (σ.1 7).toNatClampNeg p0)) 9 (upd ((sA σ 8 (upd (σ.2.1 8) (σ.1 7).toNatClampNeg p0)).2.1 9) ((sA σ 8 (upd (σ.2.1 8) (σ.1 7).toNatClampNeg p0)).1 7).toNatClampNeg p1)).1 7).toNatClampNeg p2)).1 7).toNatClampNeg p3)) 12 (upd ((sA (sA (sA (sA σ 8 (upd (σ.2.1 8) (σ.1 7).toNatClampNeg p0)) 9 (upd ((sA σ 8 (upd (σ.2.1 8) (σ.1 7).toNatClampNeg p0)).2.1 9) ((sA σ 8 (upd (σ.2.1 8) (σ.1 7).toNatClampNeg p0)).1 7).toNatClampNeg p1)) 10 (upd ((sA (sA σ 8 (upd (σ.2.1 8) (σ.1 7).toNatClampNeg p0)) 9 (upd ((sA σ 8 (upd (σ.2.1 8) (σ.1 7).toNatClampNeg p0)).2.1 9) ((sA σ 8 (upd (σ.2.1 8) (σ.1 7).toNatClampNeg p0)).1 7).toNatClampNeg p1)).2.1 10) ((sA (sA σ 8 (upd (σ.2.1 8) (σ.1 7).toNatClampNeg p0)) 9 (upd ((sA σ 8 (upd (σ.2.1 8) (σ.1 7).toNatClampNeg p0)).2.1 9) ((sA σ 8 (upd (σ.2.1 8) (σ.1 7).toNatClampNeg p0)).1 7).toNatClampNeg p1)).1 7).toNatClampNeg p2)) 11 (upd ((sA (sA (sA σ 8 (upd (σ.2.1 8) (σ.1 7).toNatClampNeg p0)) 9 (upd ((sA σ 8 (upd (σ.2.1 8) (σ.1 7).toNatClampNeg p0)).2.1 9) ((sA σ 8 (upd (σ.2.1 8) (σ.1 7).toNatClampNeg p0)).1 7).toNatClampNeg p1)) 10 (upd ((sA (sA σ 8 (upd (σ.2.1 8) (σ.1 7).toNatClampNeg p0)) 9 (upd ((sA σ 8 (upd (σ.2.1 8) (σ.1 7).toNatClampNeg p0)).2.1 9) ((sA σ 8 (upd (σ.2.1 8) (σ.1 7).toNatClampNeg p0)).1 7).toNatClampNeg p1)).2.1 10) ((sA (sA σ 8 (upd (σ.2.1 8) (σ.1 7).toNatClampNeg p0)) 9 (upd ((sA σ 8 (upd (σ.2.1 8) (σ.1 7).toNatClampNeg p0)).2.1 9) ((sA σ 8 (upd (σ.2.1 8) (σ.1 7).toNatClampNeg p0)).1 7).toNatClampNeg p1)).1 7).toNatClampNeg p2)).2.1 11) ((sA (sA (sA σ 8 (upd (σ.2.1 8) (σ.1 7).toNatClampNeg p0)) 9 (upd ((sA σ 8 (upd (σ.2.1 8) (σ.1 7).toNatClampNeg p0)).2.1 9) ((sA σ 8 (upd (σ.2.1 8) (σ.1 7).toNatClampNeg p0)).1 7).toNatClampNeg p1)) 10 (upd ((sA (sA σ 8 (upd (σ.2.1 8) (σ.1 7).toNatClampNeg p0)) 9 (upd ((sA σ 8 (upd (σ.2.1 8) (σ.1 7).toNatClampNeg p0)).2.1 9) ((sA σ 8 (upd (σ.2.1 8) (σ.1 7).toNatClampNeg p0)).1 7).toNatClampNeg p1)).2.1 10) ((sA (sA σ 8 (upd (σ.2.1 8) (σ.1 7).toNatClampNeg p0)) 9 (upd ((sA σ 8 (upd (σ.2.1 8) (σ.1 7).toNatClampNeg p0)).2.1 9) ((sA σ 8 (upd (σ.2.1 8) (σ.1 7).toNatClampNeg p0)).1 7).toNatClampNeg p1)).1 7).toNatClampNeg p2)).1 7).toNatClampNeg p3)).2.1 12) ((sA (sA (sA (sA σ 8 (upd (σ.2.1 8) (σ.1 7).toNatClampNeg p0)) 9 (upd ((sA σ 8 (upd (σ.2.1 8) (σ.1 7).toNatClampNeg p0)).2.1 9) ((sA σ 8 (upd (σ.2.1 8) (σ.1 7).toNatClampNeg p0)).1 7).toNatClampNeg p1)) 10 (upd ((sA (sA σ 8 (upd (σ.2.1 8) (σ.1 7).toNatClampNeg p0)) 9 (upd ((sA σ 8 (upd (σ.2.1 8) (σ.1 7).toNatClampNeg p0)).2.1 9) ((sA σ 8 (upd (σ.2.1 8) (σ.1 7).toNatClampNeg p0)).1 7).toNatClampNeg p1)).2.1 10) ((sA (sA σ 8 (upd (σ.2.1 8) (σ.1 7).toNatClampNeg p0)) 9 (upd ((sA σ 8 (upd (σ.2.1 8) (σ.1 7).toNatClampNeg p0)).2.1 9) ((sA σ 8 (upd (σ.2.1 8) (σ.1 7).toNatClampNeg p0)).1 7).toNatClampNeg p1)).1 7).toNatClampNeg p2)) 11 (upd ((sA (sA (sA σ 8 (upd (σ.2.1 8) (σ.1 7).toNatClampNeg p0)) 9 (upd ((sA σ 8 (upd (σ.2.1 8) (σ.1 7).toNatClampNeg p0)).2.1 9) ((sA σ 8 (upd (σ.2.1 8) (σ.1 7).toNatClampNeg p0)).1 7).toNatClampNeg p1)) 10 (upd ((sA (sA σ 8 (upd (σ.2.1 8) (σ.1 7).toNatClampNeg p0)) 9 (upd ((sA σ 8 (upd (σ.2.1 8) (σ.1 7).toNatClampNeg p0)).2.1 9) ((sA σ 8 (upd (σ.2.1 8) (σ.1 7).toNatClampNeg p0)).1 7).toNatClampNeg p1)).2.1 10) ((sA (sA σ 8 (upd (σ.2.1 8) (σ.1 7).toNatClampNeg p0)) 9 (upd ((sA σ 8 (upd (σ.2.1 8) (σ.1 7).toNatClampNeg p0)).2.1 9) ((sA σ 8 (upd (σ.2.1 8) (σ.1 7).toNatClampNeg p0)).1 7).toNatClampNeg p1)).1 7).toNatClampNeg p2)).2.1 11) ((sA (sA (sA σ 8 (upd (σ.2.1 8) (σ.1 7).toNatClampNeg p0)) 9 (upd ((sA σ 8 (upd (σ.2.1 8) (σ.1 7).toNatClampNeg p0)).2.1 9) ((sA σ 8 (upd (σ.2.1 8) (σ.1 7).toNatClampNeg p0)).1 7).toNatClampNeg p1)) 10 (upd ((sA (sA σ 8 (upd (σ.2.1 8) (σ.1 7).toNatClampNeg p0)) 9 (upd ((sA σ 8 (upd (σ.2.1 8) (σ.1 7).toNatClampNeg p0)).2.1 9) ((sA σ 8 (upd (σ.2.1 8) (σ.1 7).toNatClampNeg p0)).1 7).toNatClampNeg p1)).2.1 10) ((sA (sA σ 8 (upd (σ.2.1 8) (σ.1 7).toNatClampNeg p0)) 9 (upd ((sA σ 8 (upd (σ.2.1 8) (σ.1 7).toNatClampNeg p0)).2.1 9) ((sA σ 8 (upd (σ.2.1 8) (σ.1 7).toNatClampNeg p0)).1 7).toNatClampNeg p1)).1 7).toNatClampNeg p2)).1 7).toNatClampNeg p3)).1 7).toNatClampNeg p4)) 1 ((sA (sA (sA (sA (sA σ 8 (upd (σ.2.1 8) (σ.1 7).toNatClampNeg p0)) 9 (upd ((sA σ 8 (upd (σ.2.1 8) (σ.1 7).toNatClampNeg p0)).2.1 9) ((sA σ 8 (upd (σ.2.1 8) (σ.1 7).toNatClampNeg p0)).1 7).toNatClampNeg p1)) 10 (upd ((sA (sA σ 8 (upd (σ.2.1 8) (σ.1 7).toNatClampNeg p0)) 9 (upd ((sA σ 8 (upd (σ.2.1 8) (σ.1 7).toNatClampNeg p0)).2.1 9) ((sA σ 8 (upd (σ.2.1 8) (σ.1 7).toNatClampNeg p0)).1 7).toNatClampNeg p1)).2.1 10) ((sA (sA σ 8 (upd (σ.2.1 8) (σ.1 7).toNatClampNeg p0)) 9 (upd ((sA σ 8 (upd (σ.2.1 8) (σ.1 7).toNatClampNeg p0)).2.1 9) ((sA σ 8 (upd (σ.2.1 8) (σ.1 7).toNatClampNeg p0)).1 7).toNatClampNeg p1)).1 7).toNatClampNeg p2)) 11 (upd ((sA (sA (sA σ 8 (upd (σ.2.1 8) (σ.1 7).toNatClampNeg p0)) 9 (upd ((sA σ 8 (upd (σ.2.1 8) (σ.1 7).toNatClampNeg p0)).2.1 9) ((sA σ 8 (upd (σ.2.1 8) (σ.1 7).toNatClampNeg p0)).1 7).toNatClampNeg p1)) 10 (upd ((sA (sA σ 8 (upd (σ.2.1 8) (σ.1 7).toNatClampNeg p0)) 9 (upd ((sA σ 8 (upd (σ.2.1 8) (σ.1 7).toNatClampNeg p0)).2.1 9) ((sA σ 8 (upd (σ.2.1 8) (σ.1 7).toNatClampNeg p0)).1 7).toNatClampNeg p1)).2.1 10) ((sA (sA σ 8 (upd (σ.2.1 8) (σ.1 7).toNatClampNeg p0)) 9 (upd ((sA σ 8 (upd (σ.2.1 8) (σ.1 7).toNatClampNeg p0)).2.1 9) ((sA σ 8 (upd (σ.2.1 8) (σ.1 7).toNatClampNeg p0)).1 7).toNatClampNeg p1)).1 7).toNatClampNeg p2)).2.1 11) ((sA (sA (sA σ 8 (upd (σ.2.1 8) (σ.1 7).toNatClampNeg p0)) 9 (upd ((sA σ 8 (upd (σ.2.1 8) (σ.1 7).toNatClampNeg p0)).2.1 9) ((sA σ 8 (upd (σ.2.1 8) (σ.1 7).toNatClampNeg p0)).1 7).toNatClampNeg p1)) 10 (upd ((sA (sA σ 8 (upd (σ.2.1 8) (σ.1 7).toNatClampNeg p0)) 9 (upd ((sA σ 8 (upd (σ.2.1 8) (σ.1 7).toNatClampNeg p0)).2.1 9) ((sA σ 8 (upd (σ.2.1 8) (σ.1 7).toNatClampNeg p0)).1 7).toNatClampNeg p1)).2.1 10) ((sA (sA σ 8 (upd (σ.2.1 8) (σ.1 7).toNatClampNeg p0)) 9 (upd ((sA σ 8 (upd (σ.2.1 8) (σ.1 7).toNatClampNeg p0)).2.1 9) ((sA σ 8 (upd (σ.2.1 8) (σ.1 7).toNatClampNeg p0)).1 7).toNatClampNeg p1)).1 7).toNatClampNeg p2)).1 7).toNatClampNeg p3)) 12 (upd ((sA (sA (sA (sA σ 8 (upd (σ.2.1 8) (σ.1 7).toNatClampNeg p0)) 9 (upd ((sA σ 8 (upd (σ.2.1 8) (σ.1 7).toNatClampNeg p0)).2.1 9) ((sA σ 8 (upd (σ.2.1 8) (σ.1 7).toNatClampNeg p0)).1 7).toNatClampNeg p1)) 10 (upd ((sA (sA σ 8 (upd (σ.2.1 8) (σ.1 7).toNatClampNeg p0)) 9 (upd ((sA σ 8 (upd (σ.2.1 8) (σ.1 7).toNatClampNeg p0)).2.1 9) ((sA σ 8 (upd (σ.2.1 8) (σ.1 7).toNatClampNeg p0)).1 7).toNatClampNeg p1)).2.1 10) ((sA (sA σ 8 (upd (σ.2.1 8) (σ.1 7).toNatClampNeg p0)) 9 (upd ((sA σ 8 (upd (σ.2.1 8) (σ.1 7).toNatClampNeg p0)).2.1 9) ((sA σ 8 (upd (σ.2.1 8) (σ.1 7).toNatClampNeg p0)).1 7).toNatClampNeg p1)).1 7).toNatClampNeg p2)) 11 (upd ((sA (sA (sA σ 8 (upd (σ.2.1 8) (σ.1 7).toNatClampNeg p0)) 9 (upd ((sA σ 8 (upd (σ.2.1 8) (σ.1 7).toNatClampNeg p0)).2.1 9) ((sA σ 8 (upd (σ.2.1 8) (σ.1 7).toNatClampNeg p0)).1 7).toNatClampNeg p1)) 10 (upd ((sA (sA σ 8 (upd (σ.2.1 8) (σ.1 7).toNatClampNeg p0)) 9 (upd ((sA σ 8 (upd (σ.2.1 8) (σ.1 7).toNatClampNeg p0)).2.1 9) ((sA σ 8 (upd (σ.2.1 8) (σ.1 7).toNatClampNeg p0)).1 7).toNatClampNeg p1)).2.1 10) ((sA (sA σ 8 (upd (σ.2.1 8) (σ.1 7).toNatClampNeg p0)) 9 (upd ((sA σ 8 (upd (σ.2.1 8) (σ.1 7).toNatClampNeg p0)).2.1 9) ((sA σ 8 (upd (σ.2.1 8) (σ.1 7).toNatClampNeg p0)).1 7).toNatClampNeg p1)).1 7).toNatClampNeg p2)).2.1 11) ((sA (sA (sA σ 8 (upd (σ.2.1 8) (σ.1 7).toNatClampNeg p0)) 9 (upd ((sA σ 8 (upd (σ.2.1 8) (σ.1 7).toNatClampNeg p0)).2.1 9) ((sA σ 8 (upd (σ.2.1 8) (σ.1 7).toNatClampNeg p0)).1 7).toNatClampNeg p1)) 10 (upd ((sA (sA σ 8 (upd (σ.2.1 8) (σ.1 7).toNatClampNeg p0)) 9 (upd ((sA σ 8 (upd (σ.2.1 8) (σ.1 7).toNatClampNeg p0)).2.1 9) ((sA σ 8 (upd (σ.2.1 8) (σ.1 7).toNatClampNeg p0)).1 7).toNatClampNeg p1)).2.1 10) ((sA (sA σ 8 (upd (σ.2.1 8) (σ.1 7).toNatClampNeg p0)) 9 (upd ((sA σ 8 (upd (σ.2.1 8) (σ.1 7).toNatClampNeg p0)).2.1 9) ((sA σ 8 (upd (σ.2.1 8) (σ.1 7).toNatClampNeg p0)).1 7).toNatClampNeg p1)).1 7).toNatClampNeg p2)).1 7).toNatClampNeg p3)).2.1 12) ((sA (sA (sA (sA σ 8 (upd (σ.2.1 8) (σ.1 7).toNatClampNeg p0)) 9 (upd ((sA σ 8 (upd (σ.2.1 8) (σ.1 7).toNatClampNeg p0)).2.1 9) ((sA σ 8 (upd (σ.2.1 8) (σ.1 7).toNatClampNeg p0)).1 7).toNatClampNeg p1)) 10 (upd ((sA (sA σ 8 (upd (σ.2.1 8) (σ.1 7).toNatClampNeg p0)) 9 (upd ((sA σ 8 (upd (σ.2.1 8) (σ.1 7).toNatClampNeg p0)).2.1 9) ((sA σ 8 (upd (σ.2.1 8) (σ.1 7).toNatClampNeg p0)).1 7).toNatClampNeg p1)).2.1 10) ((sA (sA σ 8 (upd (σ.2.1 8) (σ.1 7).toNatClampNeg p0)) 9 (upd ((sA σ 8 (upd (σ.2.1 8) (σ.1 7).toNatClampNeg p0)).2.1 9) ((sA σ 8 (upd (σ.2.1 8) (σ.1 7).toNatClampNeg p0)).1 7).toNatClampNeg p1)).1 7).toNatClampNeg p2)) 11 (upd ((sA (sA (sA σ 8 (upd (σ.2.1 8) (σ.1 7).toNatClampNeg p0)) 9 (upd ((sA σ 8 (upd (σ.2.1 8) (σ.1 7).toNatClampNeg p0)).2.1 9) ((sA σ 8 (upd (σ.2.1 8) (σ.1 7).toNatClampNeg p0)).1 7).toNatClampNeg p1)) 10 (upd ((sA (sA σ 8 (upd (σ.2.1 8) (σ.1 7).toNatClampNeg p0)) 9 (upd ((sA σ 8 (upd (σ.2.1 8) (σ.1 7).toNatClampNeg p0)).2.1 9) ((sA σ 8 (upd (σ.2.1 8) (σ.1 7).toNatClampNeg p0)).1 7).toNatClampNeg p1)).2.1 10) ((sA (sA σ 8 (upd (σ.2.1 8) (σ.1 7).toNatClampNeg p0)) 9 (upd ((sA σ 8 (upd (σ.2.1 8) (σ.1 7).toNatClampNeg p0)).2.1 9) ((sA σ 8 (upd (σ.2.1 8) (σ.1 7).toNatClampNeg p0)).1 7).toNatClampNeg p1)).1 7).toNatClampNeg p2)).2.1 11) ((sA (sA (sA σ 8 (upd (σ.2.1 8) (σ.1 7).toNatClampNeg p0)) 9 (upd ((sA σ 8 (upd (σ.2.1 8) (σ.1 7).toNatClampNeg p0)).2.1 9) ((sA σ 8 (upd (σ.2.1 8) (σ.1 7).toNatClampNeg p0)).1 7).toNatClampNeg p1)) 10 (upd ((sA (sA σ 8 (upd (σ.2.1 8) (σ.1 7).toNatClampNeg p0)) 9 (upd ((sA σ 8 (upd (σ.2.1 8) (σ.1 7).toNatClampNeg p0)).2.1 9) ((sA σ 8 (upd (σ.2.1 8) (σ.1 7).toNatClampNeg p0)).1 7).toNatClampNeg p1)).2.1 10) ((sA (sA σ 8 (upd (σ.2.1 8) (σ.1 7).toNatClampNeg p0)) 9 (upd ((sA σ 8 (upd (σ.2.1 8) (σ.1 7).toNatClampNeg p0)).2.1 9) ((sA σ 8 (upd (σ.2.1 8) (σ.1 7).toNatClampNeg p0)).1 7).toNatClampNeg p1)).1 7).toNatClampNeg p2)).1 7).toNatClampNeg p3)).1 7).toNatClampNeg p4)).1 13)
  · refine at_bipush hC bi_m4 dX11_tells_10 ?_
    exact at_iret (F := eqA ad) (ra := rI) hC dX11_tells_12 rfl (Nat.le_refl 0) (Nat.le_refl 0) rfl
theorem dX11_wed_0 : decode cX11_wed 0 = .ok (.aload_n 0, 1) := by decide +kernel
theorem dX11_wed_1 : decode cX11_wed 1 = .ok (.iload_n 1, 1) := by decide +kernel
theorem dX11_wed_2 : decode cX11_wed 2 = .ok (.invokevirtual 133, 3) := by decide +kernel
theorem dX11_wed_5 : decode cX11_wed 5 = .ok (.ifCond .eq 11, 3) := by decide +kernel
theorem dX11_wed_8 : decode cX11_wed 8 = .ok (.aload_n 0, 1) := by decide +kernel
theorem dX11_wed_9 : decode cX11_wed 9 = .ok (.iload_n 2, 1) := by decide +kernel
theorem dX11_wed_10 : decode cX11_wed 10 = .ok (.invokevirtual 133, 3) := by decide +kernel
theorem dX11_wed_13 : decode cX11_wed 13 = .ok (.ifCond .ne 5, 3) := by decide +kernel
theorem dX11_wed_16 : decode cX11_wed 16 = .ok (.iconst (-1), 1) := by decide +kernel
theorem dX11_wed_17 : decode cX11_wed 17 = .ok (.ireturn, 1) := by decide +kernel
theorem dX11_wed_18 : decode cX11_wed 18 = .ok (.iload_n 3, 1) := by decide +kernel
theorem dX11_wed_19 : decode cX11_wed 19 = .ok (.invokestatic 177, 3) := by decide +kernel
theorem dX11_wed_22 : decode cX11_wed 22 = .ok (.ifCond .eq 22, 3) := by decide +kernel
theorem dX11_wed_25 : decode cX11_wed 25 = .ok (.aload_n 0, 1) := by decide +kernel
theorem dX11_wed_26 : decode cX11_wed 26 = .ok (.getfield 11, 3) := by decide +kernel
theorem dX11_wed_29 : decode cX11_wed 29 = .ok (.iload_n 1, 1) := by decide +kernel
theorem dX11_wed_30 : decode cX11_wed 30 = .ok (.iaload, 1) := by decide +kernel
theorem dX11_wed_31 : decode cX11_wed 31 = .ok (.ifCond .ne 13, 3) := by decide +kernel
theorem dX11_wed_34 : decode cX11_wed 34 = .ok (.aload_n 0, 1) := by decide +kernel
theorem dX11_wed_35 : decode cX11_wed 35 = .ok (.getfield 11, 3) := by decide +kernel
theorem dX11_wed_38 : decode cX11_wed 38 = .ok (.iload_n 2, 1) := by decide +kernel
theorem dX11_wed_39 : decode cX11_wed 39 = .ok (.iaload, 1) := by decide +kernel
theorem dX11_wed_40 : decode cX11_wed 40 = .ok (.iconst 1, 1) := by decide +kernel
theorem dX11_wed_41 : decode cX11_wed 41 = .ok (.if_icmp .eq 6, 3) := by decide +kernel
theorem dX11_wed_44 : decode cX11_wed 44 = .ok (.bipush (-2), 2) := by decide +kernel
theorem dX11_wed_46 : decode cX11_wed 46 = .ok (.ireturn, 1) := by decide +kernel
theorem dX11_wed_47 : decode cX11_wed 47 = .ok (.aload_n 0, 1) := by decide +kernel
theorem dX11_wed_48 : decode cX11_wed 48 = .ok (.iconst (-1), 1) := by decide +kernel
theorem dX11_wed_49 : decode cX11_wed 49 = .ok (.invokevirtual 143, 3) := by decide +kernel
theorem dX11_wed_52 : decode cX11_wed 52 = .ok (.aload_n 0, 1) := by decide +kernel
theorem dX11_wed_53 : decode cX11_wed 53 = .ok (.iload_n 1, 1) := by decide +kernel
theorem dX11_wed_54 : decode cX11_wed 54 = .ok (.iload_n 3, 1) := by decide +kernel
theorem dX11_wed_55 : decode cX11_wed 55 = .ok (.invokevirtual 147, 3) := by decide +kernel
theorem dX11_wed_58 : decode cX11_wed 58 = .ok (.ifCond .eq 32, 3) := by decide +kernel
theorem dX11_wed_61 : decode cX11_wed 61 = .ok (.aload_n 0, 1) := by decide +kernel
theorem dX11_wed_62 : decode cX11_wed 62 = .ok (.iload_n 2, 1) := by decide +kernel
theorem dX11_wed_63 : decode cX11_wed 63 = .ok (.iload_n 3, 1) := by decide +kernel
theorem dX11_wed_64 : decode cX11_wed 64 = .ok (.invokevirtual 147, 3) := by decide +kernel
theorem dX11_wed_67 : decode cX11_wed 67 = .ok (.ifCond .eq 23, 3) := by decide +kernel
theorem dX11_wed_70 : decode cX11_wed 70 = .ok (.aload_n 0, 1) := by decide +kernel
theorem dX11_wed_71 : decode cX11_wed 71 = .ok (.iload_n 1, 1) := by decide +kernel
theorem dX11_wed_72 : decode cX11_wed 72 = .ok (.iload_n 3, 1) := by decide +kernel
theorem dX11_wed_73 : decode cX11_wed 73 = .ok (.invokevirtual 180, 3) := by decide +kernel
theorem dX11_wed_76 : decode cX11_wed 76 = .ok (.iconst (-1), 1) := by decide +kernel
theorem dX11_wed_77 : decode cX11_wed 77 = .ok (.if_icmp .ne 13, 3) := by decide +kernel
theorem dX11_wed_80 : decode cX11_wed 80 = .ok (.aload_n 0, 1) := by decide +kernel
theorem dX11_wed_81 : decode cX11_wed 81 = .ok (.iload_n 2, 1) := by decide +kernel
theorem dX11_wed_82 : decode cX11_wed 82 = .ok (.iload_n 3, 1) := by decide +kernel
theorem dX11_wed_83 : decode cX11_wed 83 = .ok (.invokevirtual 180, 3) := by decide +kernel
theorem dX11_wed_86 : decode cX11_wed 86 = .ok (.iconst (-1), 1) := by decide +kernel
theorem dX11_wed_87 : decode cX11_wed 87 = .ok (.if_icmp .eq 6, 3) := by decide +kernel
theorem dX11_wed_90 : decode cX11_wed 90 = .ok (.bipush (-3), 2) := by decide +kernel
theorem dX11_wed_92 : decode cX11_wed 92 = .ok (.ireturn, 1) := by decide +kernel
theorem dX11_wed_93 : decode cX11_wed 93 = .ok (.aload_n 0, 1) := by decide +kernel
theorem dX11_wed_94 : decode cX11_wed 94 = .ok (.iconst 1, 1) := by decide +kernel
theorem dX11_wed_95 : decode cX11_wed 95 = .ok (.iload_n 1, 1) := by decide +kernel
theorem dX11_wed_96 : decode cX11_wed 96 = .ok (.iload_n 2, 1) := by decide +kernel
theorem dX11_wed_97 : decode cX11_wed 97 = .ok (.iload_n 3, 1) := by decide +kernel
theorem dX11_wed_98 : decode cX11_wed 98 = .ok (.iconst (-1), 1) := by decide +kernel
theorem dX11_wed_99 : decode cX11_wed 99 = .ok (.invokevirtual 183, 3) := by decide +kernel
theorem dX11_wed_102 : decode cX11_wed 102 = .ok (.ireturn, 1) := by decide +kernel
set_option maxRecDepth 100000 in
theorem c_M_wed (σ : MS) (p0 : Int32) (p1 : Int32) (p2 : Int32) : Ct z (wM z τ) rI eqA yX11_wed cX11_wed 4 (some .int) 3 0 0 [.ref 0, .int p0, .int p1, .int p2] σ (M_wed σ p0 p1 p2) := by
  refine Ct.of (by decide) (Nat.le_of_ble_eq_true rfl) (fun ad x hC hR _ => ?_)
  show AT z x 4 (wM z τ) rI (eqA ad) 0 0 0 0 ad 0 [(0, .ref 0), (1, .int p0), (2, .int p1), (3, .int p2)] [] σ (M_wed σ p0 p1 p2)
  unfold M_wed
  refine at_aload_n (j := 0) hC rfl rfl dX11_wed_0 ?_
  refine at_iload_n (j := 1) hC rfl rfl dX11_wed_1 ?_
  refine at_callVpI hC hR lk_X11_133 (c_M_isPerson σ p0) dX11_wed_2 recX11 rfl rfl ⟨by decide, by decide⟩ (Nat.le_of_ble_eq_true rfl) ⟨Nat.le_refl 0, Nat.le_refl 0⟩ (fun r1 _ => ?_)
  refine at_if_eq (tgt := 16) hC dX11_wed_5 rfl (fun _ => ?_) (fun _ => ?_)
  · refine at_iconst hC ic_m1 dX11_wed_16 ?_
    exact at_iret (F := eqA ad) (ra := rI) hC dX11_wed_17 rfl (Nat.le_refl 0) (Nat.le_refl 0) rfl
  · refine at_aload_n (j := 0) hC rfl rfl dX11_wed_8 ?_
    refine at_iload_n (j := 2) hC rfl rfl dX11_wed_9 ?_
    refine at_callVpI hC hR lk_X11_133 (c_M_isPerson σ p1) dX11_wed_10 recX11 rfl rfl ⟨by decide, by decide⟩ (Nat.le_of_ble_eq_true rfl) ⟨Nat.le_refl 0, Nat.le_refl 0⟩ (fun r2 _ => ?_)
    refine at_if_ne (tgt := 18) hC dX11_wed_13 rfl (fun _ => ?_) (fun _ => ?_)
    · refine at_iload_n (j := 3) hC rfl rfl dX11_wed_18 ?_
      refine at_callSpI hC hR lk_X11_177 (c_M_isDay σ p2) dX11_wed_19 rfl rfl ⟨by decide, by decide⟩ (Nat.le_of_ble_eq_true rfl) ⟨Nat.le_refl 0, Nat.le_refl 0⟩ (fun r3 _ => ?_)
      refine at_if_eq (tgt := 44) hC dX11_wed_22 rfl (fun _ => ?_) (fun _ => ?_)
      · refine at_bipush hC bi_m2 dX11_wed_44 ?_
        exact at_iret (F := eqA ad) (ra := rI) hC dX11_wed_46 rfl (Nat.le_refl 0) (Nat.le_refl 0) rfl
      · refine at_aload_n (j := 0) hC rfl rfl dX11_wed_25 ?_
        refine gf_X11_11 hC dX11_wed_26 ?_
        refine at_iload_n (j := 1) hC rfl rfl dX11_wed_29 ?_
        refine at_iald hC 1 dX11_wed_30 cl_1 (fun v4 => ?_)
        refine at_if_ne (tgt := 44) hC dX11_wed_31 rfl (fun _ => ?_) (fun _ => ?_)
        · refine at_bipush hC bi_m2 dX11_wed_44 ?_
          exact at_iret (F := eqA ad) (ra := rI) hC dX11_wed_46 rfl (Nat.le_refl 0) (Nat.le_refl 0) rfl
        · refine at_aload_n (j := 0) hC rfl rfl dX11_wed_34 ?_
          refine gf_X11_11 hC dX11_wed_35 ?_
          refine at_iload_n (j := 2) hC rfl rfl dX11_wed_38 ?_
          refine at_iald hC 1 dX11_wed_39 cl_1 (fun v5 => ?_)
          refine at_iconst hC ic_1 dX11_wed_40 ?_
          refine at_icmp_eq (tgt := 47) hC dX11_wed_41 rfl (fun _ => ?_) (fun _ => ?_)
          · refine at_aload_n (j := 0) hC rfl rfl dX11_wed_47 ?_
            refine at_iconst hC ic_m1 dX11_wed_48 ?_
            refine at_callVU hC hR lk_X11_143 (c_M_looks σ (-1)) dX11_wed_49 recX11 rfl rfl ⟨by decide, by decide⟩ (Nat.le_of_ble_eq_true rfl) ⟨Nat.le_refl 0, Nat.le_refl 0⟩ (fun r6 r6s _ => ?_)
            refine at_aload_n (j := 0) hC rfl rfl dX11_wed_52 ?_
            refine at_iload_n (j := 1) hC rfl rfl dX11_wed_53 ?_
            refine at_iload_n (j := 3) hC rfl rfl dX11_wed_54 ?_
            refine at_callVpI hC hR lk_X11_147 (c_M_lives r6s p0 p2) dX11_wed_55 recX11 rfl rfl ⟨by decide, by decide⟩ (Nat.le_of_ble_eq_true rfl) ⟨Nat.le_refl 0, Nat.le_refl 0⟩ (fun r7 _ => ?_)
            refine at_if_eq (tgt := 90) hC dX11_wed_58 rfl (fun _ => ?_) (fun _ => ?_)
            · refine at_bipush hC bi_m3 dX11_wed_90 ?_
              exact at_iret (F := eqA ad) (ra := rI) hC dX11_wed_92 rfl (Nat.le_refl 0) (Nat.le_refl 0) rfl
            · refine at_aload_n (j := 0) hC rfl rfl dX11_wed_61 ?_
              refine at_iload_n (j := 2) hC rfl rfl dX11_wed_62 ?_
              refine at_iload_n (j := 3) hC rfl rfl dX11_wed_63 ?_
              refine at_callVpI hC hR lk_X11_147 (c_M_lives r6s p1 p2) dX11_wed_64 recX11 rfl rfl ⟨by decide, by decide⟩ (Nat.le_of_ble_eq_true rfl) ⟨Nat.le_refl 0, Nat.le_refl 0⟩ (fun r8 _ => ?_)
              refine at_if_eq (tgt := 90) hC dX11_wed_67 rfl (fun _ => ?_) (fun _ => ?_)
              · refine at_bipush hC bi_m3 dX11_wed_90 ?_
                exact at_iret (F := eqA ad) (ra := rI) hC dX11_wed_92 rfl (Nat.le_refl 0) (Nat.le_refl 0) rfl
              · refine at_aload_n (j := 0) hC rfl rfl dX11_wed_70 ?_
                refine at_iload_n (j := 1) hC rfl rfl dX11_wed_71 ?_
                refine at_iload_n (j := 3) hC rfl rfl dX11_wed_72 ?_
                refine at_callVpI hC hR lk_X11_180 (c_M_wedTo r6s p0 p2) dX11_wed_73 recX11 rfl rfl ⟨by decide, by decide⟩ (Nat.le_of_ble_eq_true rfl) ⟨Nat.le_refl 0, Nat.le_refl 0⟩ (fun r9 _ => ?_)
                refine at_iconst hC ic_m1 dX11_wed_76 ?_
                refine at_icmp_ne (tgt := 90) hC dX11_wed_77 rfl (fun _ => ?_) (fun _ => ?_)
                · refine at_bipush hC bi_m3 dX11_wed_90 ?_
                  exact at_iret (F := eqA ad) (ra := rI) hC dX11_wed_92 rfl (Nat.le_refl 0) (Nat.le_refl 0) rfl
                · refine at_aload_n (j := 0) hC rfl rfl dX11_wed_80 ?_
                  refine at_iload_n (j := 2) hC rfl rfl dX11_wed_81 ?_
                  refine at_iload_n (j := 3) hC rfl rfl dX11_wed_82 ?_
                  refine at_callVpI hC hR lk_X11_180 (c_M_wedTo r6s p1 p2) dX11_wed_83 recX11 rfl rfl ⟨by decide, by decide⟩ (Nat.le_of_ble_eq_true rfl) ⟨Nat.le_refl 0, Nat.le_refl 0⟩ (fun r10 _ => ?_)
                  refine at_iconst hC ic_m1 dX11_wed_86 ?_
                  refine at_icmp_eq (tgt := 93) hC dX11_wed_87 rfl (fun _ => ?_) (fun _ => ?_)
                  · refine at_aload_n (j := 0) hC rfl rfl dX11_wed_93 ?_
                    refine at_iconst hC ic_1 dX11_wed_94 ?_
                    refine at_iload_n (j := 1) hC rfl rfl dX11_wed_95 ?_
                    refine at_iload_n (j := 2) hC rfl rfl dX11_wed_96 ?_
                    refine at_iload_n (j := 3) hC rfl rfl dX11_wed_97 ?_
                    refine at_iconst hC ic_m1 dX11_wed_98 ?_
                    refine at_callVI hC hR lk_X11_183 (c_M_tells r6s 1 p0 p1 p2 (-1)) dX11_wed_99 recX11 rfl rfl ⟨by decide, by decide⟩ (Nat.le_of_ble_eq_true rfl) ⟨Nat.le_refl 0, Nat.le_refl 0⟩ (fun r11 r11s _ => ?_)
                    exact at_iret (F := eqA ad) (ra := rI) hC dX11_wed_102 rfl (Nat.le_refl 0) (Nat.le_refl 0) rfl
                  · refine at_bipush hC bi_m3 dX11_wed_90 ?_
                    exact at_iret (F := eqA ad) (ra := rI) hC dX11_wed_92 rfl (Nat.le_refl 0) (Nat.le_refl 0) rfl
          · refine at_bipush hC bi_m2 dX11_wed_44 ?_
            exact at_iret (F := eqA ad) (ra := rI) hC dX11_wed_46 rfl (Nat.le_refl 0) (Nat.le_refl 0) rfl
    · refine at_iconst hC ic_m1 dX11_wed_16 ?_
      exact at_iret (F := eqA ad) (ra := rI) hC dX11_wed_17 rfl (Nat.le_refl 0) (Nat.le_refl 0) rfl
end G
