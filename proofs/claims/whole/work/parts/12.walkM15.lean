section G
variable {z : ZZ} {x : XX} {ad : Nat → Nat} {τ : XS}
theorem dX11_plan_0 : decode cX11_plan 0 = .ok (.iload_n 3, 1) := by decide +kernel
theorem dX11_plan_1 : decode cX11_plan 1 = .ok (.iconst 0, 1) := by decide +kernel
theorem dX11_plan_2 : decode cX11_plan 2 = .ok (.iconst 1, 1) := by decide +kernel
theorem dX11_plan_3 : decode cX11_plan 3 = .ok (.invokestatic 129, 3) := by decide +kernel
theorem dX11_plan_6 : decode cX11_plan 6 = .ok (.ifCond .ne 5, 3) := by decide +kernel
theorem dX11_plan_9 : decode cX11_plan 9 = .ok (.iconst (-1), 1) := by decide +kernel
theorem dX11_plan_10 : decode cX11_plan 10 = .ok (.ireturn, 1) := by decide +kernel
theorem dX11_plan_11 : decode cX11_plan 11 = .ok (.iload_n 1, 1) := by decide +kernel
theorem dX11_plan_12 : decode cX11_plan 12 = .ok (.invokestatic 379, 3) := by decide +kernel
theorem dX11_plan_15 : decode cX11_plan 15 = .ok (.ifCond .eq 13, 3) := by decide +kernel
theorem dX11_plan_18 : decode cX11_plan 18 = .ok (.iload_n 2, 1) := by decide +kernel
theorem dX11_plan_19 : decode cX11_plan 19 = .ok (.iconst 1, 1) := by decide +kernel
theorem dX11_plan_20 : decode cX11_plan 20 = .ok (.bipush 20, 2) := by decide +kernel
theorem dX11_plan_22 : decode cX11_plan 22 = .ok (.invokestatic 129, 3) := by decide +kernel
theorem dX11_plan_25 : decode cX11_plan 25 = .ok (.ifCond .ne 6, 3) := by decide +kernel
theorem dX11_plan_28 : decode cX11_plan 28 = .ok (.bipush (-2), 2) := by decide +kernel
theorem dX11_plan_30 : decode cX11_plan 30 = .ok (.ireturn, 1) := by decide +kernel
theorem dX11_plan_31 : decode cX11_plan 31 = .ok (.aload_n 0, 1) := by decide +kernel
theorem dX11_plan_32 : decode cX11_plan 32 = .ok (.iconst (-1), 1) := by decide +kernel
theorem dX11_plan_33 : decode cX11_plan 33 = .ok (.invokevirtual 143, 3) := by decide +kernel
theorem dX11_plan_36 : decode cX11_plan 36 = .ok (.aload_n 0, 1) := by decide +kernel
theorem dX11_plan_37 : decode cX11_plan 37 = .ok (.iload_n 1, 1) := by decide +kernel
theorem dX11_plan_38 : decode cX11_plan 38 = .ok (.invokevirtual 426, 3) := by decide +kernel
theorem dX11_plan_41 : decode cX11_plan 41 = .ok (.lstore 4, 2) := by decide +kernel
theorem dX11_plan_43 : decode cX11_plan 43 = .ok (.bipush (-5), 2) := by decide +kernel
theorem dX11_plan_45 : decode cX11_plan 45 = .ok (.istore 6, 2) := by decide +kernel
theorem dX11_plan_47 : decode cX11_plan 47 = .ok (.bipush (-5), 2) := by decide +kernel
theorem dX11_plan_49 : decode cX11_plan 49 = .ok (.istore 7, 2) := by decide +kernel
theorem dX11_plan_51 : decode cX11_plan 51 = .ok (.iconst 0, 1) := by decide +kernel
theorem dX11_plan_52 : decode cX11_plan 52 = .ok (.istore 8, 2) := by decide +kernel
theorem dX11_plan_54 : decode cX11_plan 54 = .ok (.iload 8, 2) := by decide +kernel
theorem dX11_plan_56 : decode cX11_plan 56 = .ok (.iconst 1, 1) := by decide +kernel
theorem dX11_plan_57 : decode cX11_plan 57 = .ok (.aload_n 0, 1) := by decide +kernel
theorem dX11_plan_58 : decode cX11_plan 58 = .ok (.getfield 444, 3) := by decide +kernel
theorem dX11_plan_61 : decode cX11_plan 61 = .ok (.ishl, 1) := by decide +kernel
theorem dX11_plan_62 : decode cX11_plan 62 = .ok (.if_icmp .ge 132, 3) := by decide +kernel
theorem dX11_plan_65 : decode cX11_plan 65 = .ok (.aload_n 0, 1) := by decide +kernel
theorem dX11_plan_66 : decode cX11_plan 66 = .ok (.iload 8, 2) := by decide +kernel
theorem dX11_plan_68 : decode cX11_plan 68 = .ok (.invokevirtual 454, 3) := by decide +kernel
theorem dX11_plan_71 : decode cX11_plan 71 = .ok (.ifCond .eq 117, 3) := by decide +kernel
theorem dX11_plan_74 : decode cX11_plan 74 = .ok (.aload_n 0, 1) := by decide +kernel
theorem dX11_plan_75 : decode cX11_plan 75 = .ok (.iload 8, 2) := by decide +kernel
theorem dX11_plan_77 : decode cX11_plan 77 = .ok (.invokevirtual 457, 3) := by decide +kernel
theorem dX11_plan_80 : decode cX11_plan 80 = .ok (.iconst 1, 1) := by decide +kernel
theorem dX11_plan_81 : decode cX11_plan 81 = .ok (.istore 9, 2) := by decide +kernel
theorem dX11_plan_83 : decode cX11_plan 83 = .ok (.iconst 0, 1) := by decide +kernel
theorem dX11_plan_84 : decode cX11_plan 84 = .ok (.istore 10, 2) := by decide +kernel
theorem dX11_plan_86 : decode cX11_plan 86 = .ok (.iload 10, 2) := by decide +kernel
theorem dX11_plan_88 : decode cX11_plan 88 = .ok (.aload_n 0, 1) := by decide +kernel
theorem dX11_plan_89 : decode cX11_plan 89 = .ok (.getfield 441, 3) := by decide +kernel
theorem dX11_plan_92 : decode cX11_plan 92 = .ok (.if_icmp .ge 36, 3) := by decide +kernel
theorem dX11_plan_95 : decode cX11_plan 95 = .ok (.iload 9, 2) := by decide +kernel
theorem dX11_plan_97 : decode cX11_plan 97 = .ok (.ifCond .eq 31, 3) := by decide +kernel
theorem dX11_plan_100 : decode cX11_plan 100 = .ok (.aload_n 0, 1) := by decide +kernel
theorem dX11_plan_101 : decode cX11_plan 101 = .ok (.iload 10, 2) := by decide +kernel
theorem dX11_plan_103 : decode cX11_plan 103 = .ok (.iload_n 1, 1) := by decide +kernel
theorem dX11_plan_104 : decode cX11_plan 104 = .ok (.iload_n 2, 1) := by decide +kernel
theorem dX11_plan_105 : decode cX11_plan 105 = .ok (.lload 4, 2) := by decide +kernel
theorem dX11_plan_107 : decode cX11_plan 107 = .ok (.invokevirtual 450, 3) := by decide +kernel
theorem dX11_plan_110 : decode cX11_plan 110 = .ok (.bipush (-5), 2) := by decide +kernel
theorem dX11_plan_112 : decode cX11_plan 112 = .ok (.if_icmp .ne 7, 3) := by decide +kernel
theorem dX11_plan_115 : decode cX11_plan 115 = .ok (.iconst 1, 1) := by decide +kernel
theorem dX11_plan_116 : decode cX11_plan 116 = .ok (.goto 4, 3) := by decide +kernel
theorem dX11_plan_119 : decode cX11_plan 119 = .ok (.iconst 0, 1) := by decide +kernel
theorem dX11_plan_120 : decode cX11_plan 120 = .ok (.istore 9, 2) := by decide +kernel
theorem dX11_plan_122 : decode cX11_plan 122 = .ok (.iinc 10 1, 3) := by decide +kernel
theorem dX11_plan_125 : decode cX11_plan 125 = .ok (.goto (-39), 3) := by decide +kernel
theorem dX11_plan_128 : decode cX11_plan 128 = .ok (.aload_n 0, 1) := by decide +kernel
theorem dX11_plan_129 : decode cX11_plan 129 = .ok (.bipush 100, 2) := by decide +kernel
theorem dX11_plan_131 : decode cX11_plan 131 = .ok (.iload_n 1, 1) := by decide +kernel
theorem dX11_plan_132 : decode cX11_plan 132 = .ok (.imul, 1) := by decide +kernel
theorem dX11_plan_133 : decode cX11_plan 133 = .ok (.bipush 99, 2) := by decide +kernel
theorem dX11_plan_135 : decode cX11_plan 135 = .ok (.iadd, 1) := by decide +kernel
theorem dX11_plan_136 : decode cX11_plan 136 = .ok (.invokevirtual 460, 3) := by decide +kernel
theorem dX11_plan_139 : decode cX11_plan 139 = .ok (.istore 10, 2) := by decide +kernel
theorem dX11_plan_141 : decode cX11_plan 141 = .ok (.iload 9, 2) := by decide +kernel
theorem dX11_plan_143 : decode cX11_plan 143 = .ok (.ifCond .eq 45, 3) := by decide +kernel
theorem dX11_plan_146 : decode cX11_plan 146 = .ok (.iload 6, 2) := by decide +kernel
theorem dX11_plan_148 : decode cX11_plan 148 = .ok (.bipush (-5), 2) := by decide +kernel
theorem dX11_plan_150 : decode cX11_plan 150 = .ok (.if_icmp .eq 30, 3) := by decide +kernel
theorem dX11_plan_153 : decode cX11_plan 153 = .ok (.iload 10, 2) := by decide +kernel
theorem dX11_plan_155 : decode cX11_plan 155 = .ok (.iload 7, 2) := by decide +kernel
theorem dX11_plan_157 : decode cX11_plan 157 = .ok (.if_icmp .lt 23, 3) := by decide +kernel
theorem dX11_plan_160 : decode cX11_plan 160 = .ok (.iload 10, 2) := by decide +kernel
theorem dX11_plan_162 : decode cX11_plan 162 = .ok (.iload 7, 2) := by decide +kernel
theorem dX11_plan_164 : decode cX11_plan 164 = .ok (.if_icmp .ne 24, 3) := by decide +kernel
theorem dX11_plan_167 : decode cX11_plan 167 = .ok (.iload 8, 2) := by decide +kernel
theorem dX11_plan_169 : decode cX11_plan 169 = .ok (.invokestatic 463, 3) := by decide +kernel
theorem dX11_plan_172 : decode cX11_plan 172 = .ok (.iload 6, 2) := by decide +kernel
theorem dX11_plan_174 : decode cX11_plan 174 = .ok (.invokestatic 463, 3) := by decide +kernel
theorem dX11_plan_177 : decode cX11_plan 177 = .ok (.if_icmp .ge 11, 3) := by decide +kernel
theorem dX11_plan_180 : decode cX11_plan 180 = .ok (.iload 8, 2) := by decide +kernel
theorem dX11_plan_182 : decode cX11_plan 182 = .ok (.istore 6, 2) := by decide +kernel
theorem dX11_plan_184 : decode cX11_plan 184 = .ok (.iload 10, 2) := by decide +kernel
theorem dX11_plan_186 : decode cX11_plan 186 = .ok (.istore 7, 2) := by decide +kernel
theorem dX11_plan_188 : decode cX11_plan 188 = .ok (.iinc 8 1, 3) := by decide +kernel
theorem dX11_plan_191 : decode cX11_plan 191 = .ok (.goto (-137), 3) := by decide +kernel
theorem dX11_plan_194 : decode cX11_plan 194 = .ok (.aload_n 0, 1) := by decide +kernel
theorem dX11_plan_195 : decode cX11_plan 195 = .ok (.iconst 0, 1) := by decide +kernel
theorem dX11_plan_196 : decode cX11_plan 196 = .ok (.invokevirtual 457, 3) := by decide +kernel
theorem dX11_plan_199 : decode cX11_plan 199 = .ok (.iload_n 3, 1) := by decide +kernel
theorem dX11_plan_200 : decode cX11_plan 200 = .ok (.ifCond .ne 8, 3) := by decide +kernel
theorem dX11_plan_203 : decode cX11_plan 203 = .ok (.iload 6, 2) := by decide +kernel
theorem dX11_plan_205 : decode cX11_plan 205 = .ok (.goto 5, 3) := by decide +kernel
theorem dX11_plan_208 : decode cX11_plan 208 = .ok (.iload 7, 2) := by decide +kernel
theorem dX11_plan_210 : decode cX11_plan 210 = .ok (.ireturn, 1) := by decide +kernel
set_option maxRecDepth 100000 in
theorem t_M_plan_J188 (hC : CX z ad x cX11_plan RX11 11 (some .int)) (hR : x.2.2.1 = rmk 624 0 0) (k_54 : MS → Int32 → Int32 → Int32 → Int64 → Int32 → Int32 → Int32 → Option (Int32 × MS)) (hk_54 : ∀ (σ : MS) (a1 : Int32) (a2 : Int32) (a3 : Int32) (a4 : Int64) (a6 : Int32) (a7 : Int32) (a8 : Int32), AT z x 11 (wM z τ) rI (eqA ad) 0 0 0 0 ad 54 [(0, .ref 0), (1, .int a1), (2, .int a2), (3, .int a3), (4, .long a4), (6, .int a6), (7, .int a7), (8, .int a8)] [] σ (k_54 σ a1 a2 a3 a4 a6 a7 a8)) (σ : MS) (a1 : Int32) (a2 : Int32) (a3 : Int32) (a4 : Int64) (a6 : Int32) (a7 : Int32) (a8 : Int32) : AT z x 11 (wM z τ) rI (eqA ad) 0 0 0 0 ad 188 [(0, .ref 0), (1, .int a1), (2, .int a2), (3, .int a3), (4, .long a4), (6, .int a6), (7, .int a7), (8, .int a8)] [] σ (M_plan_J188 k_54 σ a1 a2 a3 a4 a6 a7 a8) := by
  unfold M_plan_J188
  refine at_iinc (j := 7) (v := a8 + 1) (lv' := [(8, .int (a8 + 1)), (0, .ref 0), (1, .int a1), (2, .int a2), (3, .int a3), (4, .long a4), (6, .int a6), (7, .int a7)]) hC dX11_plan_188 rfl rfl (by decide) rfl ?_
  refine at_goto (tgt := 54) hC dX11_plan_191 rfl ?_
  refine at_drop (lv' := [(0, .ref 0), (1, .int a1), (2, .int a2), (3, .int a3), (4, .long a4), (6, .int a6), (7, .int a7), (8, .int (a8 + 1))]) [1, 2, 3, 4, 5, 6, 7, 0] rfl ?_
  exact hk_54 σ a1 a2 a3 a4 a6 a7 (a8 + 1)
set_option maxRecDepth 100000 in
theorem t_M_plan_J180 (hC : CX z ad x cX11_plan RX11 11 (some .int)) (hR : x.2.2.1 = rmk 624 0 0) (k_54 : MS → Int32 → Int32 → Int32 → Int64 → Int32 → Int32 → Int32 → Option (Int32 × MS)) (hk_54 : ∀ (σ : MS) (a1 : Int32) (a2 : Int32) (a3 : Int32) (a4 : Int64) (a6 : Int32) (a7 : Int32) (a8 : Int32), AT z x 11 (wM z τ) rI (eqA ad) 0 0 0 0 ad 54 [(0, .ref 0), (1, .int a1), (2, .int a2), (3, .int a3), (4, .long a4), (6, .int a6), (7, .int a7), (8, .int a8)] [] σ (k_54 σ a1 a2 a3 a4 a6 a7 a8)) (σ : MS) (a1 : Int32) (a2 : Int32) (a3 : Int32) (a4 : Int64) (a8 : Int32) (a10 : Int32) : AT z x 11 (wM z τ) rI (eqA ad) 0 0 0 0 ad 180 [(0, .ref 0), (1, .int a1), (2, .int a2), (3, .int a3), (4, .long a4), (8, .int a8), (10, .int a10)] [] σ (M_plan_J180 k_54 σ a1 a2 a3 a4 a8 a10) := by
  unfold M_plan_J180
  refine at_iload (j := 5) hC rfl dX11_plan_180 ?_
  refine at_istore (lv' := [(6, .int a8), (0, .ref 0), (1, .int a1), (2, .int a2), (3, .int a3), (4, .long a4), (8, .int a8), (10, .int a10)]) hC dX11_plan_182 (by decide) rfl ?_
  refine at_iload (j := 7) hC rfl dX11_plan_184 ?_
  refine at_istore (lv' := [(7, .int a10), (6, .int a8), (0, .ref 0), (1, .int a1), (2, .int a2), (3, .int a3), (4, .long a4), (8, .int a8), (10, .int a10)]) hC dX11_plan_186 (by decide) rfl ?_
  refine at_drop (lv' := [(0, .ref 0), (1, .int a1), (2, .int a2), (3, .int a3), (4, .long a4), (6, .int a8), (7, .int a10), (8, .int a8)]) [2, 3, 4, 5, 6, 1, 0, 7] rfl ?_
  exact t_M_plan_J188 hC hR k_54 hk_54 σ a1 a2 a3 a4 a8 a10 a8
set_option maxRecDepth 100000 in
theorem t_M_plan_J128 (hC : CX z ad x cX11_plan RX11 11 (some .int)) (hR : x.2.2.1 = rmk 624 0 0) (k_54 : MS → Int32 → Int32 → Int32 → Int64 → Int32 → Int32 → Int32 → Option (Int32 × MS)) (hk_54 : ∀ (σ : MS) (a1 : Int32) (a2 : Int32) (a3 : Int32) (a4 : Int64) (a6 : Int32) (a7 : Int32) (a8 : Int32), AT z x 11 (wM z τ) rI (eqA ad) 0 0 0 0 ad 54 [(0, .ref 0), (1, .int a1), (2, .int a2), (3, .int a3), (4, .long a4), (6, .int a6), (7, .int a7), (8, .int a8)] [] σ (k_54 σ a1 a2 a3 a4 a6 a7 a8)) (σ : MS) (a1 : Int32) (a2 : Int32) (a3 : Int32) (a4 : Int64) (a6 : Int32) (a7 : Int32) (a8 : Int32) (a9 : Int32) : AT z x 11 (wM z τ) rI (eqA ad) 0 0 0 0 ad 128 [(0, .ref 0), (1, .int a1), (2, .int a2), (3, .int a3), (4, .long a4), (6, .int a6), (7, .int a7), (8, .int a8), (9, .int a9)] [] σ (M_plan_J128 k_54 σ a1 a2 a3 a4 a6 a7 a8 a9) := by
  unfold M_plan_J128
  refine at_aload_n (j := 0) hC rfl rfl dX11_plan_128 ?_
  refine at_bipush hC bi_100 dX11_plan_129 ?_
  refine at_iload_n (j := 1) hC rfl rfl dX11_plan_131 ?_
  refine at_imul hC dX11_plan_132 ?_
  refine at_bipush hC bi_99 dX11_plan_133 ?_
  refine at_iadd hC dX11_plan_135 ?_
  refine at_callVI hC hR lk_X11_460 (c_M_leastDues σ ((100 * a1) + 99)) dX11_plan_136 recX11 rfl rfl ⟨by decide, by decide⟩ (Nat.le_of_ble_eq_true rfl) ⟨Nat.le_refl 0, Nat.le_refl 0⟩ (fun r9 r9s _ => ?_)
  refine at_istore (lv' := [(10, .int r9), (0, .ref 0), (1, .int a1), (2, .int a2), (3, .int a3), (4, .long a4), (6, .int a6), (7, .int a7), (8, .int a8), (9, .int a9)]) hC dX11_plan_139 (by decide) rfl ?_
  refine at_iload (j := 9) hC rfl dX11_plan_141 ?_
  refine at_if_eq (tgt := 188) hC dX11_plan_143 rfl (fun _ => ?_) (fun _ => ?_)
  · refine at_drop (lv' := [(0, .ref 0), (1, .int a1), (2, .int a2), (3, .int a3), (4, .long a4), (6, .int a6), (7, .int a7), (8, .int a8)]) [1, 2, 3, 4, 5, 6, 7, 8] rfl ?_
    exact t_M_plan_J188 hC hR k_54 hk_54 r9s a1 a2 a3 a4 a6 a7 a8
  · refine at_iload (j := 6) hC rfl dX11_plan_146 ?_
    refine at_bipush hC bi_m5 dX11_plan_148 ?_
    refine at_icmp_eq (tgt := 180) hC dX11_plan_150 rfl (fun _ => ?_) (fun _ => ?_)
    · refine at_drop (lv' := [(0, .ref 0), (1, .int a1), (2, .int a2), (3, .int a3), (4, .long a4), (8, .int a8), (10, .int r9)]) [1, 2, 3, 4, 5, 8, 0] rfl ?_
      exact t_M_plan_J180 hC hR k_54 hk_54 r9s a1 a2 a3 a4 a8 r9
    · refine at_iload (j := 0) hC rfl dX11_plan_153 ?_
      refine at_iload (j := 7) hC rfl dX11_plan_155 ?_
      refine at_icmp_lt (tgt := 180) hC dX11_plan_157 rfl (fun _ => ?_) (fun _ => ?_)
      · refine at_drop (lv' := [(0, .ref 0), (1, .int a1), (2, .int a2), (3, .int a3), (4, .long a4), (8, .int a8), (10, .int r9)]) [1, 2, 3, 4, 5, 8, 0] rfl ?_
        exact t_M_plan_J180 hC hR k_54 hk_54 r9s a1 a2 a3 a4 a8 r9
      · refine at_iload (j := 0) hC rfl dX11_plan_160 ?_
        refine at_iload (j := 7) hC rfl dX11_plan_162 ?_
        refine at_icmp_ne (tgt := 188) hC dX11_plan_164 rfl (fun _ => ?_) (fun _ => ?_)
        · refine at_drop (lv' := [(0, .ref 0), (1, .int a1), (2, .int a2), (3, .int a3), (4, .long a4), (6, .int a6), (7, .int a7), (8, .int a8)]) [1, 2, 3, 4, 5, 6, 7, 8] rfl ?_
          exact t_M_plan_J188 hC hR k_54 hk_54 r9s a1 a2 a3 a4 a6 a7 a8
        · refine at_iload (j := 8) hC rfl dX11_plan_167 ?_
          refine at_callSpI hC hR lk_X11_463 (c_M_many r9s a8) dX11_plan_169 rfl rfl ⟨by decide, by decide⟩ (Nat.le_of_ble_eq_true rfl) ⟨Nat.le_refl 0, Nat.le_refl 0⟩ (fun r10 _ => ?_)
          refine at_iload (j := 6) hC rfl dX11_plan_172 ?_
          refine at_callSpI hC hR lk_X11_463 (c_M_many r9s a6) dX11_plan_174 rfl rfl ⟨by decide, by decide⟩ (Nat.le_of_ble_eq_true rfl) ⟨Nat.le_refl 0, Nat.le_refl 0⟩ (fun r11 _ => ?_)
          refine at_icmp_ge (tgt := 188) hC dX11_plan_177 rfl (fun _ => ?_) (fun _ => ?_)
          · refine at_drop (lv' := [(0, .ref 0), (1, .int a1), (2, .int a2), (3, .int a3), (4, .long a4), (6, .int a6), (7, .int a7), (8, .int a8)]) [1, 2, 3, 4, 5, 6, 7, 8] rfl ?_
            exact t_M_plan_J188 hC hR k_54 hk_54 r9s a1 a2 a3 a4 a6 a7 a8
          · refine at_drop (lv' := [(0, .ref 0), (1, .int a1), (2, .int a2), (3, .int a3), (4, .long a4), (8, .int a8), (10, .int r9)]) [1, 2, 3, 4, 5, 8, 0] rfl ?_
            exact t_M_plan_J180 hC hR k_54 hk_54 r9s a1 a2 a3 a4 a8 r9
set_option maxRecDepth 100000 in
theorem t_M_plan_J120 (hC : CX z ad x cX11_plan RX11 11 (some .int)) (hR : x.2.2.1 = rmk 624 0 0) (k_54 : MS → Int32 → Int32 → Int32 → Int64 → Int32 → Int32 → Int32 → Option (Int32 × MS)) (hk_54 : ∀ (σ : MS) (a1 : Int32) (a2 : Int32) (a3 : Int32) (a4 : Int64) (a6 : Int32) (a7 : Int32) (a8 : Int32), AT z x 11 (wM z τ) rI (eqA ad) 0 0 0 0 ad 54 [(0, .ref 0), (1, .int a1), (2, .int a2), (3, .int a3), (4, .long a4), (6, .int a6), (7, .int a7), (8, .int a8)] [] σ (k_54 σ a1 a2 a3 a4 a6 a7 a8)) (k_86 : MS → Int32 → Int32 → Int32 → Int64 → Int32 → Int32 → Int32 → Int32 → Int32 → Option (Int32 × MS)) (hk_86 : ∀ (σ : MS) (a1 : Int32) (a2 : Int32) (a3 : Int32) (a4 : Int64) (a6 : Int32) (a7 : Int32) (a8 : Int32) (a9 : Int32) (a10 : Int32), AT z x 11 (wM z τ) rI (eqA ad) 0 0 0 0 ad 86 [(0, .ref 0), (1, .int a1), (2, .int a2), (3, .int a3), (4, .long a4), (6, .int a6), (7, .int a7), (8, .int a8), (9, .int a9), (10, .int a10)] [] σ (k_86 σ a1 a2 a3 a4 a6 a7 a8 a9 a10)) (σ : MS) (a1 : Int32) (a2 : Int32) (a3 : Int32) (a4 : Int64) (a6 : Int32) (a7 : Int32) (a8 : Int32) (a10 : Int32) (s0 : Int32) : AT z x 11 (wM z τ) rI (eqA ad) 0 0 0 0 ad 120 [(0, .ref 0), (1, .int a1), (2, .int a2), (3, .int a3), (4, .long a4), (6, .int a6), (7, .int a7), (8, .int a8), (10, .int a10)] [.int s0] σ (M_plan_J120 k_54 k_86 σ a1 a2 a3 a4 a6 a7 a8 a10 s0) := by
  unfold M_plan_J120
  refine at_istore (lv' := [(9, .int s0), (0, .ref 0), (1, .int a1), (2, .int a2), (3, .int a3), (4, .long a4), (6, .int a6), (7, .int a7), (8, .int a8), (10, .int a10)]) hC dX11_plan_120 (by decide) rfl ?_
  refine at_iinc (j := 9) (v := a10 + 1) (lv' := [(10, .int (a10 + 1)), (9, .int s0), (0, .ref 0), (1, .int a1), (2, .int a2), (3, .int a3), (4, .long a4), (6, .int a6), (7, .int a7), (8, .int a8)]) hC dX11_plan_122 rfl rfl (by decide) rfl ?_
  refine at_goto (tgt := 86) hC dX11_plan_125 rfl ?_
  refine at_drop (lv' := [(0, .ref 0), (1, .int a1), (2, .int a2), (3, .int a3), (4, .long a4), (6, .int a6), (7, .int a7), (8, .int a8), (9, .int s0), (10, .int (a10 + 1))]) [2, 3, 4, 5, 6, 7, 8, 9, 1, 0] rfl ?_
  exact hk_86 σ a1 a2 a3 a4 a6 a7 a8 s0 (a10 + 1)
set_option maxRecDepth 100000 in
theorem t_M_plan_L86 (hC : CX z ad x cX11_plan RX11 11 (some .int)) (hR : x.2.2.1 = rmk 624 0 0) (k_54 : MS → Int32 → Int32 → Int32 → Int64 → Int32 → Int32 → Int32 → Option (Int32 × MS)) (hk_54 : ∀ (σ : MS) (a1 : Int32) (a2 : Int32) (a3 : Int32) (a4 : Int64) (a6 : Int32) (a7 : Int32) (a8 : Int32), AT z x 11 (wM z τ) rI (eqA ad) 0 0 0 0 ad 54 [(0, .ref 0), (1, .int a1), (2, .int a2), (3, .int a3), (4, .long a4), (6, .int a6), (7, .int a7), (8, .int a8)] [] σ (k_54 σ a1 a2 a3 a4 a6 a7 a8)) (n : Nat) (σ : MS) (a1 : Int32) (a2 : Int32) (a3 : Int32) (a4 : Int64) (a6 : Int32) (a7 : Int32) (a8 : Int32) (a9 : Int32) (a10 : Int32) : AT z x 11 (wM z τ) rI (eqA ad) 0 0 0 0 ad 86 [(0, .ref 0), (1, .int a1), (2, .int a2), (3, .int a3), (4, .long a4), (6, .int a6), (7, .int a7), (8, .int a8), (9, .int a9), (10, .int a10)] [] σ (M_plan_L86 k_54 n σ a1 a2 a3 a4 a6 a7 a8 a9 a10) := by
  revert σ a1 a2 a3 a4 a6 a7 a8 a9 a10
  show ∀ (σ : MS) (a1 : Int32) (a2 : Int32) (a3 : Int32) (a4 : Int64) (a6 : Int32) (a7 : Int32) (a8 : Int32) (a9 : Int32) (a10 : Int32), AT z x 11 (wM z τ) rI (eqA ad) 0 0 0 0 ad 86 [(0, .ref 0), (1, .int a1), (2, .int a2), (3, .int a3), (4, .long a4), (6, .int a6), (7, .int a7), (8, .int a8), (9, .int a9), (10, .int a10)] [] σ (M_plan_L86_r k_54 n σ a1 a2 a3 a4 a6 a7 a8 a9 a10)
  induction n with
  | zero => intro σ a1 a2 a3 a4 a6 a7 a8 a9 a10; exact at_none
  | succ n hk_86 =>
    intro σ a1 a2 a3 a4 a6 a7 a8 a9 a10
    unfold M_plan_L86_r
    refine at_iload (j := 9) hC rfl dX11_plan_86 ?_
    refine at_aload_n (j := 0) hC rfl rfl dX11_plan_88 ?_
    refine gf_X11_441 hC dX11_plan_89 ?_
    refine at_icmp_ge (tgt := 128) hC dX11_plan_92 rfl (fun _ => ?_) (fun _ => ?_)
    · refine at_drop (lv' := [(0, .ref 0), (1, .int a1), (2, .int a2), (3, .int a3), (4, .long a4), (6, .int a6), (7, .int a7), (8, .int a8), (9, .int a9)]) [0, 1, 2, 3, 4, 5, 6, 7, 8] rfl ?_
      exact t_M_plan_J128 hC hR k_54 hk_54 σ a1 a2 a3 a4 a6 a7 a8 a9
    · refine at_iload (j := 8) hC rfl dX11_plan_95 ?_
      refine at_if_eq (tgt := 128) hC dX11_plan_97 rfl (fun _ => ?_) (fun _ => ?_)
      · refine at_drop (lv' := [(0, .ref 0), (1, .int a1), (2, .int a2), (3, .int a3), (4, .long a4), (6, .int a6), (7, .int a7), (8, .int a8), (9, .int a9)]) [0, 1, 2, 3, 4, 5, 6, 7, 8] rfl ?_
        exact t_M_plan_J128 hC hR k_54 hk_54 σ a1 a2 a3 a4 a6 a7 a8 a9
      · refine at_aload_n (j := 0) hC rfl rfl dX11_plan_100 ?_
        refine at_iload (j := 9) hC rfl dX11_plan_101 ?_
        refine at_iload_n (j := 1) hC rfl rfl dX11_plan_103 ?_
        refine at_iload_n (j := 2) hC rfl rfl dX11_plan_104 ?_
        refine at_lload (j := 4) hC rfl dX11_plan_105 ?_
        refine at_callVI hC hR lk_X11_450 (c_M_shortOf σ a10 a1 a2 a4) dX11_plan_107 recX11 rfl rfl ⟨by decide, by decide⟩ (Nat.le_of_ble_eq_true rfl) ⟨Nat.le_refl 0, Nat.le_refl 0⟩ (fun r12 r12s _ => ?_)
        refine at_bipush hC bi_m5 dX11_plan_110 ?_
        refine at_icmp_ne (tgt := 119) hC dX11_plan_112 rfl (fun _ => ?_) (fun _ => ?_)
        · refine at_iconst hC ic_0 dX11_plan_119 ?_
          refine at_drop (lv' := [(0, .ref 0), (1, .int a1), (2, .int a2), (3, .int a3), (4, .long a4), (6, .int a6), (7, .int a7), (8, .int a8), (10, .int a10)]) [0, 1, 2, 3, 4, 5, 6, 7, 9] rfl ?_
          exact t_M_plan_J120 hC hR k_54 hk_54 (M_plan_L86_r k_54 n) hk_86 r12s a1 a2 a3 a4 a6 a7 a8 a10 0
        · refine at_iconst hC ic_1 dX11_plan_115 ?_
          refine at_goto (tgt := 120) hC dX11_plan_116 rfl ?_
          refine at_drop (lv' := [(0, .ref 0), (1, .int a1), (2, .int a2), (3, .int a3), (4, .long a4), (6, .int a6), (7, .int a7), (8, .int a8), (10, .int a10)]) [0, 1, 2, 3, 4, 5, 6, 7, 9] rfl ?_
          exact t_M_plan_J120 hC hR k_54 hk_54 (M_plan_L86_r k_54 n) hk_86 r12s a1 a2 a3 a4 a6 a7 a8 a10 1
set_option maxRecDepth 100000 in
theorem t_M_plan_L54 (hC : CX z ad x cX11_plan RX11 11 (some .int)) (hR : x.2.2.1 = rmk 624 0 0) (n : Nat) (σ : MS) (a1 : Int32) (a2 : Int32) (a3 : Int32) (a4 : Int64) (a6 : Int32) (a7 : Int32) (a8 : Int32) : AT z x 11 (wM z τ) rI (eqA ad) 0 0 0 0 ad 54 [(0, .ref 0), (1, .int a1), (2, .int a2), (3, .int a3), (4, .long a4), (6, .int a6), (7, .int a7), (8, .int a8)] [] σ (M_plan_L54 n σ a1 a2 a3 a4 a6 a7 a8) := by
  revert σ a1 a2 a3 a4 a6 a7 a8
  show ∀ (σ : MS) (a1 : Int32) (a2 : Int32) (a3 : Int32) (a4 : Int64) (a6 : Int32) (a7 : Int32) (a8 : Int32), AT z x 11 (wM z τ) rI (eqA ad) 0 0 0 0 ad 54 [(0, .ref 0), (1, .int a1), (2, .int a2), (3, .int a3), (4, .long a4), (6, .int a6), (7, .int a7), (8, .int a8)] [] σ (M_plan_L54_r n σ a1 a2 a3 a4 a6 a7 a8)
  induction n with
  | zero => intro σ a1 a2 a3 a4 a6 a7 a8; exact at_none
  | succ n hk_54 =>
    intro σ a1 a2 a3 a4 a6 a7 a8
    unfold M_plan_L54_r
    refine at_iload (j := 7) hC rfl dX11_plan_54 ?_
    refine at_iconst hC ic_1 dX11_plan_56 ?_
    refine at_aload_n (j := 0) hC rfl rfl dX11_plan_57 ?_
    refine gf_X11_444 hC dX11_plan_58 ?_
    refine at_ishl hC dX11_plan_61 ?_
    refine at_icmp_ge (tgt := 194) hC dX11_plan_62 rfl (fun _ => ?_) (fun _ => ?_)
    · refine at_aload_n (j := 0) hC rfl rfl dX11_plan_194 ?_
      refine at_iconst hC ic_0 dX11_plan_195 ?_
      refine at_callVU hC hR lk_X11_457 (c_M_walks σ 0) dX11_plan_196 recX11 rfl rfl ⟨by decide, by decide⟩ (Nat.le_of_ble_eq_true rfl) ⟨Nat.le_refl 0, Nat.le_refl 0⟩ (fun r6 r6s _ => ?_)
      refine at_iload_n (j := 3) hC rfl rfl dX11_plan_199 ?_
      refine at_if_ne (tgt := 208) hC dX11_plan_200 rfl (fun _ => ?_) (fun _ => ?_)
      · refine at_iload (j := 6) hC rfl dX11_plan_208 ?_
        exact at_iret (F := eqA ad) (ra := rI) hC dX11_plan_210 rfl (Nat.le_refl 0) (Nat.le_refl 0) rfl
      · refine at_iload (j := 5) hC rfl dX11_plan_203 ?_
        refine at_goto (tgt := 210) hC dX11_plan_205 rfl ?_
        exact at_iret (F := eqA ad) (ra := rI) hC dX11_plan_210 rfl (Nat.le_refl 0) (Nat.le_refl 0) rfl
    · refine at_aload_n (j := 0) hC rfl rfl dX11_plan_65 ?_
      refine at_iload (j := 7) hC rfl dX11_plan_66 ?_
      refine at_callVpI hC hR lk_X11_454 (c_M_isSet σ a8) dX11_plan_68 recX11 rfl rfl ⟨by decide, by decide⟩ (Nat.le_of_ble_eq_true rfl) ⟨Nat.le_refl 0, Nat.le_refl 0⟩ (fun r7 _ => ?_)
      refine at_if_eq (tgt := 188) hC dX11_plan_71 rfl (fun _ => ?_) (fun _ => ?_)
      · exact t_M_plan_J188 hC hR (M_plan_L54_r n) hk_54 σ a1 a2 a3 a4 a6 a7 a8
      · refine at_aload_n (j := 0) hC rfl rfl dX11_plan_74 ?_
        refine at_iload (j := 7) hC rfl dX11_plan_75 ?_
        refine at_callVU hC hR lk_X11_457 (c_M_walks σ a8) dX11_plan_77 recX11 rfl rfl ⟨by decide, by decide⟩ (Nat.le_of_ble_eq_true rfl) ⟨Nat.le_refl 0, Nat.le_refl 0⟩ (fun r8 r8s _ => ?_)
        refine at_iconst hC ic_1 dX11_plan_80 ?_
        refine at_istore (lv' := [(9, .int 1), (0, .ref 0), (1, .int a1), (2, .int a2), (3, .int a3), (4, .long a4), (6, .int a6), (7, .int a7), (8, .int a8)]) hC dX11_plan_81 (by decide) rfl ?_
        refine at_iconst hC ic_0 dX11_plan_83 ?_
        refine at_istore (lv' := [(10, .int 0), (9, .int 1), (0, .ref 0), (1, .int a1), (2, .int a2), (3, .int a3), (4, .long a4), (6, .int a6), (7, .int a7), (8, .int a8)]) hC dX11_plan_84 (by decide) rfl ?_
        refine at_drop (lv' := [(0, .ref 0), (1, .int a1), (2, .int a2), (3, .int a3), (4, .long a4), (6, .int a6), (7, .int a7), (8, .int a8), (9, .int 1), (10, .int 0)]) [2, 3, 4, 5, 6, 7, 8, 9, 1, 0] rfl ?_
        exact t_M_plan_L86 hC hR (M_plan_L54_r n) hk_54 100000 r8s a1 a2 a3 a4 a6 a7 a8 1 0
set_option maxRecDepth 100000 in
theorem c_M_plan (σ : MS) (p0 : Int32) (p1 : Int32) (p2 : Int32) : Ct z (wM z τ) rI eqA yX11_plan cX11_plan 11 (some .int) 624 0 0 [.ref 0, .int p0, .int p1, .int p2] σ (M_plan σ p0 p1 p2) := by
  refine Ct.of (by decide) (Nat.le_of_ble_eq_true rfl) (fun ad x hC hR _ => ?_)
  show AT z x 11 (wM z τ) rI (eqA ad) 0 0 0 0 ad 0 [(0, .ref 0), (1, .int p0), (2, .int p1), (3, .int p2)] [] σ (M_plan σ p0 p1 p2)
  unfold M_plan
  refine at_iload_n (j := 3) hC rfl rfl dX11_plan_0 ?_
  refine at_iconst hC ic_0 dX11_plan_1 ?_
  refine at_iconst hC ic_1 dX11_plan_2 ?_
  refine at_callSpI hC hR lk_X11_129 (c_M_in σ p2 0 1) dX11_plan_3 rfl rfl ⟨by decide, by decide⟩ (Nat.le_of_ble_eq_true rfl) ⟨Nat.le_refl 0, Nat.le_refl 0⟩ (fun r1 _ => ?_)
  refine at_if_ne (tgt := 11) hC dX11_plan_6 rfl (fun _ => ?_) (fun _ => ?_)
  · refine at_iload_n (j := 1) hC rfl rfl dX11_plan_11 ?_
    refine at_callSpI hC hR lk_X11_379 (c_M_isYear σ p0) dX11_plan_12 rfl rfl ⟨by decide, by decide⟩ (Nat.le_of_ble_eq_true rfl) ⟨Nat.le_refl 0, Nat.le_refl 0⟩ (fun r2 _ => ?_)
    refine at_if_eq (tgt := 28) hC dX11_plan_15 rfl (fun _ => ?_) (fun _ => ?_)
    · refine at_bipush hC bi_m2 dX11_plan_28 ?_
      exact at_iret (F := eqA ad) (ra := rI) hC dX11_plan_30 rfl (Nat.le_refl 0) (Nat.le_refl 0) rfl
    · refine at_iload_n (j := 2) hC rfl rfl dX11_plan_18 ?_
      refine at_iconst hC ic_1 dX11_plan_19 ?_
      refine at_bipush hC bi_20 dX11_plan_20 ?_
      refine at_callSpI hC hR lk_X11_129 (c_M_in σ p1 1 20) dX11_plan_22 rfl rfl ⟨by decide, by decide⟩ (Nat.le_of_ble_eq_true rfl) ⟨Nat.le_refl 0, Nat.le_refl 0⟩ (fun r3 _ => ?_)
      refine at_if_ne (tgt := 31) hC dX11_plan_25 rfl (fun _ => ?_) (fun _ => ?_)
      · refine at_aload_n (j := 0) hC rfl rfl dX11_plan_31 ?_
        refine at_iconst hC ic_m1 dX11_plan_32 ?_
        refine at_callVU hC hR lk_X11_143 (c_M_looks σ (-1)) dX11_plan_33 recX11 rfl rfl ⟨by decide, by decide⟩ (Nat.le_of_ble_eq_true rfl) ⟨Nat.le_refl 0, Nat.le_refl 0⟩ (fun r4 r4s _ => ?_)
        refine at_aload_n (j := 0) hC rfl rfl dX11_plan_36 ?_
        refine at_iload_n (j := 1) hC rfl rfl dX11_plan_37 ?_
        refine at_callVJ hC hR lk_X11_426 (c_M_chestBehind r4s p0) dX11_plan_38 recX11 rfl rfl ⟨by decide, by decide⟩ (Nat.le_of_ble_eq_true rfl) ⟨Nat.le_refl 0, Nat.le_refl 0⟩ (fun r5 r5s _ => ?_)
        refine at_lstore (lv' := [(4, .long r5), (0, .ref 0), (1, .int p0), (2, .int p1), (3, .int p2)]) hC dX11_plan_41 (by decide) rfl ?_
        refine at_bipush hC bi_m5 dX11_plan_43 ?_
        refine at_istore (lv' := [(6, .int (-5)), (4, .long r5), (0, .ref 0), (1, .int p0), (2, .int p1), (3, .int p2)]) hC dX11_plan_45 (by decide) rfl ?_
        refine at_bipush hC bi_m5 dX11_plan_47 ?_
        refine at_istore (lv' := [(7, .int (-5)), (6, .int (-5)), (4, .long r5), (0, .ref 0), (1, .int p0), (2, .int p1), (3, .int p2)]) hC dX11_plan_49 (by decide) rfl ?_
        refine at_iconst hC ic_0 dX11_plan_51 ?_
        refine at_istore (lv' := [(8, .int 0), (7, .int (-5)), (6, .int (-5)), (4, .long r5), (0, .ref 0), (1, .int p0), (2, .int p1), (3, .int p2)]) hC dX11_plan_52 (by decide) rfl ?_
        refine at_drop (lv' := [(0, .ref 0), (1, .int p0), (2, .int p1), (3, .int p2), (4, .long r5), (6, .int (-5)), (7, .int (-5)), (8, .int 0)]) [4, 5, 6, 7, 3, 2, 1, 0] rfl ?_
        exact t_M_plan_L54 hC hR 100000 r5s p0 p1 p2 r5 (-5) (-5) 0
      · refine at_bipush hC bi_m2 dX11_plan_28 ?_
        exact at_iret (F := eqA ad) (ra := rI) hC dX11_plan_30 rfl (Nat.le_refl 0) (Nat.le_refl 0) rfl
  · refine at_iconst hC ic_m1 dX11_plan_9 ?_
    exact at_iret (F := eqA ad) (ra := rI) hC dX11_plan_10 rfl (Nat.le_refl 0) (Nat.le_refl 0) rfl
theorem dX11_tried_0 : decode cX11_tried 0 = .ok (.iload_n 1, 1) := by decide +kernel
theorem dX11_tried_1 : decode cX11_tried 1 = .ok (.invokestatic 177, 3) := by decide +kernel
theorem dX11_tried_4 : decode cX11_tried 4 = .ok (.ifCond .eq 10, 3) := by decide +kernel
theorem dX11_tried_7 : decode cX11_tried 7 = .ok (.iload_n 2, 1) := by decide +kernel
theorem dX11_tried_8 : decode cX11_tried 8 = .ok (.invokestatic 379, 3) := by decide +kernel
theorem dX11_tried_11 : decode cX11_tried 11 = .ok (.ifCond .ne 7, 3) := by decide +kernel
theorem dX11_tried_14 : decode cX11_tried 14 = .ok (.ldc2_w 382, 3) := by decide +kernel
theorem dX11_tried_17 : decode cX11_tried 17 = .ok (.lreturn, 1) := by decide +kernel
theorem dX11_tried_18 : decode cX11_tried 18 = .ok (.aload_n 0, 1) := by decide +kernel
theorem dX11_tried_19 : decode cX11_tried 19 = .ok (.aload_n 0, 1) := by decide +kernel
theorem dX11_tried_20 : decode cX11_tried 20 = .ok (.getfield 326, 3) := by decide +kernel
theorem dX11_tried_23 : decode cX11_tried 23 = .ok (.invokevirtual 329, 3) := by decide +kernel
theorem dX11_tried_26 : decode cX11_tried 26 = .ok (.istore_n 3, 1) := by decide +kernel
theorem dX11_tried_27 : decode cX11_tried 27 = .ok (.aload_n 0, 1) := by decide +kernel
theorem dX11_tried_28 : decode cX11_tried 28 = .ok (.iconst 0, 1) := by decide +kernel
theorem dX11_tried_29 : decode cX11_tried 29 = .ok (.putfield 224, 3) := by decide +kernel
theorem dX11_tried_32 : decode cX11_tried 32 = .ok (.iload_n 3, 1) := by decide +kernel
theorem dX11_tried_33 : decode cX11_tried 33 = .ok (.ifCond .ne 7, 3) := by decide +kernel
theorem dX11_tried_36 : decode cX11_tried 36 = .ok (.ldc2_w 466, 3) := by decide +kernel
theorem dX11_tried_39 : decode cX11_tried 39 = .ok (.lreturn, 1) := by decide +kernel
theorem dX11_tried_40 : decode cX11_tried 40 = .ok (.aload_n 0, 1) := by decide +kernel
theorem dX11_tried_41 : decode cX11_tried 41 = .ok (.getfield 42, 3) := by decide +kernel
theorem dX11_tried_44 : decode cX11_tried 44 = .ok (.aload_n 0, 1) := by decide +kernel
theorem dX11_tried_45 : decode cX11_tried 45 = .ok (.getfield 326, 3) := by decide +kernel
theorem dX11_tried_48 : decode cX11_tried 48 = .ok (.iload_n 1, 1) := by decide +kernel
theorem dX11_tried_49 : decode cX11_tried 49 = .ok (.iastore, 1) := by decide +kernel
theorem dX11_tried_50 : decode cX11_tried 50 = .ok (.aload_n 0, 1) := by decide +kernel
theorem dX11_tried_51 : decode cX11_tried 51 = .ok (.iconst 1, 1) := by decide +kernel
theorem dX11_tried_52 : decode cX11_tried 52 = .ok (.putfield 332, 3) := by decide +kernel
theorem dX11_tried_55 : decode cX11_tried 55 = .ok (.aload_n 0, 1) := by decide +kernel
theorem dX11_tried_56 : decode cX11_tried 56 = .ok (.iconst (-1), 1) := by decide +kernel
theorem dX11_tried_57 : decode cX11_tried 57 = .ok (.invokevirtual 143, 3) := by decide +kernel
theorem dX11_tried_60 : decode cX11_tried 60 = .ok (.aload_n 0, 1) := by decide +kernel
theorem dX11_tried_61 : decode cX11_tried 61 = .ok (.iload_n 2, 1) := by decide +kernel
theorem dX11_tried_62 : decode cX11_tried 62 = .ok (.invokevirtual 426, 3) := by decide +kernel
theorem dX11_tried_65 : decode cX11_tried 65 = .ok (.lstore 4, 2) := by decide +kernel
theorem dX11_tried_67 : decode cX11_tried 67 = .ok (.aload_n 0, 1) := by decide +kernel
theorem dX11_tried_68 : decode cX11_tried 68 = .ok (.iconst 0, 1) := by decide +kernel
theorem dX11_tried_69 : decode cX11_tried 69 = .ok (.putfield 332, 3) := by decide +kernel
theorem dX11_tried_72 : decode cX11_tried 72 = .ok (.lload 4, 2) := by decide +kernel
theorem dX11_tried_74 : decode cX11_tried 74 = .ok (.lreturn, 1) := by decide +kernel
set_option maxRecDepth 100000 in
theorem c_M_tried (σ : MS) (p0 : Int32) (p1 : Int32) : Ct z (wM z τ) rJ eqA yX11_tried cX11_tried 6 (some .long) 624 0 0 [.ref 0, .int p0, .int p1] σ (M_tried σ p0 p1) := by
  refine Ct.of (by decide) (Nat.le_of_ble_eq_true rfl) (fun ad x hC hR _ => ?_)
  show AT z x 6 (wM z τ) rJ (eqA ad) 0 0 0 0 ad 0 [(0, .ref 0), (1, .int p0), (2, .int p1)] [] σ (M_tried σ p0 p1)
  unfold M_tried
  refine at_iload_n (j := 1) hC rfl rfl dX11_tried_0 ?_
  refine at_callSpI hC hR lk_X11_177 (c_M_isDay σ p0) dX11_tried_1 rfl rfl ⟨by decide, by decide⟩ (Nat.le_of_ble_eq_true rfl) ⟨Nat.le_refl 0, Nat.le_refl 0⟩ (fun r1 _ => ?_)
  refine at_if_eq (tgt := 14) hC dX11_tried_4 rfl (fun _ => ?_) (fun _ => ?_)
  · refine at_ldc2 hC kl_X11_382 dX11_tried_14 ?_
    exact at_lret (F := eqA ad) (ra := rJ) hC dX11_tried_17 rfl (Nat.le_refl 0) (Nat.le_refl 0) rfl
  · refine at_iload_n (j := 2) hC rfl rfl dX11_tried_7 ?_
    refine at_callSpI hC hR lk_X11_379 (c_M_isYear σ p1) dX11_tried_8 rfl rfl ⟨by decide, by decide⟩ (Nat.le_of_ble_eq_true rfl) ⟨Nat.le_refl 0, Nat.le_refl 0⟩ (fun r2 _ => ?_)
    refine at_if_ne (tgt := 18) hC dX11_tried_11 rfl (fun _ => ?_) (fun _ => ?_)
    · refine at_aload_n (j := 0) hC rfl rfl dX11_tried_18 ?_
      refine at_aload_n (j := 0) hC rfl rfl dX11_tried_19 ?_
      refine gf_X11_326 hC dX11_tried_20 ?_
      refine at_callVI hC hR lk_X11_329 (c_M_readsAct σ (σ.1 16)) dX11_tried_23 recX11 rfl rfl ⟨by decide, by decide⟩ (Nat.le_of_ble_eq_true rfl) ⟨Nat.le_refl 0, Nat.le_refl 0⟩ (fun r3 r3s _ => ?_)
      refine at_istore_n (lv' := [(3, .int r3), (0, .ref 0), (1, .int p0), (2, .int p1)]) hC rfl dX11_tried_26 (by decide) rfl ?_
      refine at_aload_n (j := 1) hC rfl rfl dX11_tried_27 ?_
      refine at_iconst hC ic_0 dX11_tried_28 ?_
      refine pf_X11_224 hC dX11_tried_29 ?_
      refine at_iload_n (j := 0) hC rfl rfl dX11_tried_32 ?_
      refine at_if_ne (tgt := 40) hC dX11_tried_33 rfl (fun _ => ?_) (fun _ => ?_)
      · refine at_aload_n (j := 1) hC rfl rfl dX11_tried_40 ?_
        refine gf_X11_42 hC dX11_tried_41 ?_
        refine at_aload_n (j := 1) hC rfl rfl dX11_tried_44 ?_
        refine gf_X11_326 hC dX11_tried_45 ?_
        refine at_iload_n (j := 2) hC rfl rfl dX11_tried_48 ?_
        refine at_iast hC 11 dX11_tried_49 cl_11 st_11 ?_
        refine at_aload_n (j := 1) hC rfl rfl dX11_tried_50 ?_
        refine at_iconst hC ic_1 dX11_tried_51 ?_
        refine pf_X11_332 hC dX11_tried_52 ?_
        refine at_aload_n (j := 1) hC rfl rfl dX11_tried_55 ?_
        refine at_iconst hC ic_m1 dX11_tried_56 ?_
        refine at_callVU hC hR lk_X11_143 (c_M_looks (sI (sA (sI r3s 15 0) 17 (upd ((sI r3s 15 0).2.1 17) ((sI r3s 15 0).1 16).toNatClampNeg p0)) 50 1) (-1)) dX11_tried_57 recX11 rfl rfl ⟨by decide, by decide⟩ (Nat.le_of_ble_eq_true rfl) ⟨Nat.le_refl 0, Nat.le_refl 0⟩ (fun r4 r4s _ => ?_)
        refine at_aload_n (j := 1) hC rfl rfl dX11_tried_60 ?_
        refine at_iload_n (j := 3) hC rfl rfl dX11_tried_61 ?_
        refine at_callVJ hC hR lk_X11_426 (c_M_chestBehind r4s p1) dX11_tried_62 recX11 rfl rfl ⟨by decide, by decide⟩ (Nat.le_of_ble_eq_true rfl) ⟨Nat.le_refl 0, Nat.le_refl 0⟩ (fun r5 r5s _ => ?_)
        refine at_lstore (lv' := [(4, .long r5), (3, .int r3), (0, .ref 0), (1, .int p0), (2, .int p1)]) hC dX11_tried_65 (by decide) rfl ?_
        refine at_aload_n (j := 2) hC rfl rfl dX11_tried_67 ?_
        refine at_iconst hC ic_0 dX11_tried_68 ?_
        refine pf_X11_332 hC dX11_tried_69 ?_
        refine at_lload (j := 0) hC rfl dX11_tried_72 ?_
        exact at_lret (F := eqA ad) (ra := rJ) hC dX11_tried_74 rfl (Nat.le_refl 0) (Nat.le_refl 0) rfl
      · refine at_ldc2 hC kl_X11_466 dX11_tried_36 ?_
        exact at_lret (F := eqA ad) (ra := rJ) hC dX11_tried_39 rfl (Nat.le_refl 0) (Nat.le_refl 0) rfl
    · refine at_ldc2 hC kl_X11_382 dX11_tried_14 ?_
      exact at_lret (F := eqA ad) (ra := rJ) hC dX11_tried_17 rfl (Nat.le_refl 0) (Nat.le_refl 0) rfl
theorem dX11_told_0 : decode cX11_told 0 = .ok (.iload_n 1, 1) := by decide +kernel
theorem dX11_told_1 : decode cX11_told 1 = .ok (.iconst (-1), 1) := by decide +kernel
theorem dX11_told_2 : decode cX11_told 2 = .ok (.if_icmp .ne 15, 3) := by decide +kernel
theorem dX11_told_5 : decode cX11_told 5 = .ok (.iload_n 2, 1) := by decide +kernel
theorem dX11_told_6 : decode cX11_told 6 = .ok (.ifCond .ne 7, 3) := by decide +kernel
theorem dX11_told_9 : decode cX11_told 9 = .ok (.iconst 1, 1) := by decide +kernel
theorem dX11_told_10 : decode cX11_told 10 = .ok (.goto 29, 3) := by decide +kernel
theorem dX11_told_13 : decode cX11_told 13 = .ok (.iconst 0, 1) := by decide +kernel
theorem dX11_told_14 : decode cX11_told 14 = .ok (.goto 25, 3) := by decide +kernel
theorem dX11_told_17 : decode cX11_told 17 = .ok (.aload_n 0, 1) := by decide +kernel
theorem dX11_told_18 : decode cX11_told 18 = .ok (.iload_n 1, 1) := by decide +kernel
theorem dX11_told_19 : decode cX11_told 19 = .ok (.invokevirtual 133, 3) := by decide +kernel
theorem dX11_told_22 : decode cX11_told 22 = .ok (.ifCond .eq 16, 3) := by decide +kernel
theorem dX11_told_25 : decode cX11_told 25 = .ok (.iload_n 2, 1) := by decide +kernel
theorem dX11_told_26 : decode cX11_told 26 = .ok (.iconst 0, 1) := by decide +kernel
theorem dX11_told_27 : decode cX11_told 27 = .ok (.iconst 2, 1) := by decide +kernel
theorem dX11_told_28 : decode cX11_told 28 = .ok (.invokestatic 129, 3) := by decide +kernel
theorem dX11_told_31 : decode cX11_told 31 = .ok (.ifCond .eq 7, 3) := by decide +kernel
theorem dX11_told_34 : decode cX11_told 34 = .ok (.iconst 1, 1) := by decide +kernel
theorem dX11_told_35 : decode cX11_told 35 = .ok (.goto 4, 3) := by decide +kernel
theorem dX11_told_38 : decode cX11_told 38 = .ok (.iconst 0, 1) := by decide +kernel
theorem dX11_told_39 : decode cX11_told 39 = .ok (.istore 5, 2) := by decide +kernel
theorem dX11_told_41 : decode cX11_told 41 = .ok (.iload 5, 2) := by decide +kernel
theorem dX11_told_43 : decode cX11_told 43 = .ok (.ifCond .ne 7, 3) := by decide +kernel
theorem dX11_told_46 : decode cX11_told 46 = .ok (.ldc2_w 382, 3) := by decide +kernel
theorem dX11_told_49 : decode cX11_told 49 = .ok (.lreturn, 1) := by decide +kernel
theorem dX11_told_50 : decode cX11_told 50 = .ok (.lload_n 3, 1) := by decide +kernel
theorem dX11_told_51 : decode cX11_told 51 = .ok (.ldc2_w 468, 3) := by decide +kernel
theorem dX11_told_54 : decode cX11_told 54 = .ok (.lcmp, 1) := by decide +kernel
theorem dX11_told_55 : decode cX11_told 55 = .ok (.ifCond .lt 11, 3) := by decide +kernel
theorem dX11_told_58 : decode cX11_told 58 = .ok (.lload_n 3, 1) := by decide +kernel
theorem dX11_told_59 : decode cX11_told 59 = .ok (.ldc2_w 470, 3) := by decide +kernel
theorem dX11_told_62 : decode cX11_told 62 = .ok (.lcmp, 1) := by decide +kernel
theorem dX11_told_63 : decode cX11_told 63 = .ok (.ifCond .le 7, 3) := by decide +kernel
theorem dX11_told_66 : decode cX11_told 66 = .ok (.ldc2_w 466, 3) := by decide +kernel
theorem dX11_told_69 : decode cX11_told 69 = .ok (.lreturn, 1) := by decide +kernel
theorem dX11_told_70 : decode cX11_told 70 = .ok (.iload_n 1, 1) := by decide +kernel
theorem dX11_told_71 : decode cX11_told 71 = .ok (.iconst (-1), 1) := by decide +kernel
theorem dX11_told_72 : decode cX11_told 72 = .ok (.if_icmp .ne 8, 3) := by decide +kernel
theorem dX11_told_75 : decode cX11_told 75 = .ok (.bipush 72, 2) := by decide +kernel
theorem dX11_told_77 : decode cX11_told 77 = .ok (.goto 8, 3) := by decide +kernel
theorem dX11_told_80 : decode cX11_told 80 = .ok (.iconst 3, 1) := by decide +kernel
theorem dX11_told_81 : decode cX11_told 81 = .ok (.iload_n 1, 1) := by decide +kernel
theorem dX11_told_82 : decode cX11_told 82 = .ok (.imul, 1) := by decide +kernel
theorem dX11_told_83 : decode cX11_told 83 = .ok (.iload_n 2, 1) := by decide +kernel
theorem dX11_told_84 : decode cX11_told 84 = .ok (.iadd, 1) := by decide +kernel
theorem dX11_told_85 : decode cX11_told 85 = .ok (.istore 6, 2) := by decide +kernel
theorem dX11_told_87 : decode cX11_told 87 = .ok (.aload_n 0, 1) := by decide +kernel
theorem dX11_told_88 : decode cX11_told 88 = .ok (.getfield 107, 3) := by decide +kernel
theorem dX11_told_91 : decode cX11_told 91 = .ok (.iload 6, 2) := by decide +kernel
theorem dX11_told_93 : decode cX11_told 93 = .ok (.laload, 1) := by decide +kernel
theorem dX11_told_94 : decode cX11_told 94 = .ok (.lstore 7, 2) := by decide +kernel
theorem dX11_told_96 : decode cX11_told 96 = .ok (.aload_n 0, 1) := by decide +kernel
theorem dX11_told_97 : decode cX11_told 97 = .ok (.getfield 107, 3) := by decide +kernel
theorem dX11_told_100 : decode cX11_told 100 = .ok (.iload 6, 2) := by decide +kernel
theorem dX11_told_102 : decode cX11_told 102 = .ok (.lload_n 3, 1) := by decide +kernel
theorem dX11_told_103 : decode cX11_told 103 = .ok (.lastore, 1) := by decide +kernel
theorem dX11_told_104 : decode cX11_told 104 = .ok (.lload 7, 2) := by decide +kernel
theorem dX11_told_106 : decode cX11_told 106 = .ok (.lreturn, 1) := by decide +kernel
set_option maxRecDepth 100000 in
theorem t_M_told_J85 (hC : CX z ad x cX11_told RX11 9 (some .long)) (hR : x.2.2.1 = rmk 3 0 0) (σ : MS) (a3 : Int64) (s0 : Int32) : AT z x 9 (wM z τ) rJ (eqA ad) 0 0 0 0 ad 85 [(0, .ref 0), (3, .long a3)] [.int s0] σ (M_told_J85 σ a3 s0) := by
  unfold M_told_J85
  refine at_istore (lv' := [(6, .int s0), (0, .ref 0), (3, .long a3)]) hC dX11_told_85 (by decide) rfl ?_
  refine at_aload_n (j := 1) hC rfl rfl dX11_told_87 ?_
  refine gf_X11_107 hC dX11_told_88 ?_
  refine at_iload (j := 0) hC rfl dX11_told_91 ?_
  refine at_lald hC 31 dX11_told_93 cl_31 (fun v2 => ?_)
  refine at_lstore (lv' := [(7, .long v2), (6, .int s0), (0, .ref 0), (3, .long a3)]) hC dX11_told_94 (by decide) rfl ?_
  refine at_aload_n (j := 2) hC rfl rfl dX11_told_96 ?_
  refine gf_X11_107 hC dX11_told_97 ?_
  refine at_iload (j := 1) hC rfl dX11_told_100 ?_
  refine at_lload_n (j := 3) hC rfl rfl dX11_told_102 ?_
  refine at_last hC 31 dX11_told_103 cl_31 st_31 ?_
  refine at_lload (j := 0) hC rfl dX11_told_104 ?_
  exact at_lret (F := eqA ad) (ra := rJ) hC dX11_told_106 rfl (Nat.le_refl 0) (Nat.le_refl 0) rfl
set_option maxRecDepth 100000 in
theorem t_M_told_J39 (hC : CX z ad x cX11_told RX11 9 (some .long)) (hR : x.2.2.1 = rmk 3 0 0) (σ : MS) (a1 : Int32) (a2 : Int32) (a3 : Int64) (s0 : Int32) : AT z x 9 (wM z τ) rJ (eqA ad) 0 0 0 0 ad 39 [(0, .ref 0), (1, .int a1), (2, .int a2), (3, .long a3)] [.int s0] σ (M_told_J39 σ a1 a2 a3 s0) := by
  unfold M_told_J39
  refine at_istore (lv' := [(5, .int s0), (0, .ref 0), (1, .int a1), (2, .int a2), (3, .long a3)]) hC dX11_told_39 (by decide) rfl ?_
  refine at_iload (j := 0) hC rfl dX11_told_41 ?_
  refine at_if_ne (tgt := 50) hC dX11_told_43 rfl (fun _ => ?_) (fun _ => ?_)
  · refine at_lload_n (j := 4) hC rfl rfl dX11_told_50 ?_
    refine at_ldc2 hC kl_X11_468 dX11_told_51 ?_
    refine at_lcmp hC dX11_told_54 ?_
    refine at_if_lt (tgt := 66) hC dX11_told_55 rfl (fun _ => ?_) (fun _ => ?_)
    · refine at_ldc2 hC kl_X11_466 dX11_told_66 ?_
      exact at_lret (F := eqA ad) (ra := rJ) hC dX11_told_69 rfl (Nat.le_refl 0) (Nat.le_refl 0) rfl
    · refine at_lload_n (j := 4) hC rfl rfl dX11_told_58 ?_
      refine at_ldc2 hC kl_X11_470 dX11_told_59 ?_
      refine at_lcmp hC dX11_told_62 ?_
      refine at_if_le (tgt := 70) hC dX11_told_63 rfl (fun _ => ?_) (fun _ => ?_)
      · refine at_iload_n (j := 2) hC rfl rfl dX11_told_70 ?_
        refine at_iconst hC ic_m1 dX11_told_71 ?_
        refine at_icmp_ne (tgt := 80) hC dX11_told_72 rfl (fun _ => ?_) (fun _ => ?_)
        · refine at_iconst hC ic_3 dX11_told_80 ?_
          refine at_iload_n (j := 2) hC rfl rfl dX11_told_81 ?_
          refine at_imul hC dX11_told_82 ?_
          refine at_iload_n (j := 3) hC rfl rfl dX11_told_83 ?_
          refine at_iadd hC dX11_told_84 ?_
          refine at_drop (lv' := [(0, .ref 0), (3, .long a3)]) [1, 4] rfl ?_
          exact t_M_told_J85 hC hR σ a3 ((3 * a1) + a2)
        · refine at_bipush hC bi_72 dX11_told_75 ?_
          refine at_goto (tgt := 85) hC dX11_told_77 rfl ?_
          refine at_drop (lv' := [(0, .ref 0), (3, .long a3)]) [1, 4] rfl ?_
          exact t_M_told_J85 hC hR σ a3 72
      · refine at_ldc2 hC kl_X11_466 dX11_told_66 ?_
        exact at_lret (F := eqA ad) (ra := rJ) hC dX11_told_69 rfl (Nat.le_refl 0) (Nat.le_refl 0) rfl
  · refine at_ldc2 hC kl_X11_382 dX11_told_46 ?_
    exact at_lret (F := eqA ad) (ra := rJ) hC dX11_told_49 rfl (Nat.le_refl 0) (Nat.le_refl 0) rfl
set_option maxRecDepth 100000 in
theorem t_M_told_J38 (hC : CX z ad x cX11_told RX11 9 (some .long)) (hR : x.2.2.1 = rmk 3 0 0) (σ : MS) (a1 : Int32) (a2 : Int32) (a3 : Int64) : AT z x 9 (wM z τ) rJ (eqA ad) 0 0 0 0 ad 38 [(0, .ref 0), (1, .int a1), (2, .int a2), (3, .long a3)] [] σ (M_told_J38 σ a1 a2 a3) := by
  unfold M_told_J38
  refine at_iconst hC ic_0 dX11_told_38 ?_
  exact t_M_told_J39 hC hR σ a1 a2 a3 0
set_option maxRecDepth 100000 in
theorem c_M_told (σ : MS) (p0 : Int32) (p1 : Int32) (p2 : Int64) : Ct z (wM z τ) rJ eqA yX11_told cX11_told 9 (some .long) 3 0 0 [.ref 0, .int p0, .int p1, .long p2] σ (M_told σ p0 p1 p2) := by
  refine Ct.of (by decide) (Nat.le_of_ble_eq_true rfl) (fun ad x hC hR _ => ?_)
  show AT z x 9 (wM z τ) rJ (eqA ad) 0 0 0 0 ad 0 [(0, .ref 0), (1, .int p0), (2, .int p1), (3, .long p2)] [] σ (M_told σ p0 p1 p2)
  unfold M_told
  refine at_iload_n (j := 1) hC rfl rfl dX11_told_0 ?_
  refine at_iconst hC ic_m1 dX11_told_1 ?_
  refine at_icmp_ne (tgt := 17) hC dX11_told_2 rfl (fun _ => ?_) (fun _ => ?_)
  · refine at_aload_n (j := 0) hC rfl rfl dX11_told_17 ?_
    refine at_iload_n (j := 1) hC rfl rfl dX11_told_18 ?_
    refine at_callVpI hC hR lk_X11_133 (c_M_isPerson σ p0) dX11_told_19 recX11 rfl rfl ⟨by decide, by decide⟩ (Nat.le_of_ble_eq_true rfl) ⟨Nat.le_refl 0, Nat.le_refl 0⟩ (fun r1 _ => ?_)
    refine at_if_eq (tgt := 38) hC dX11_told_22 rfl (fun _ => ?_) (fun _ => ?_)
    · exact t_M_told_J38 hC hR σ p0 p1 p2
    · refine at_iload_n (j := 2) hC rfl rfl dX11_told_25 ?_
      refine at_iconst hC ic_0 dX11_told_26 ?_
      refine at_iconst hC ic_2 dX11_told_27 ?_
      refine at_callSpI hC hR lk_X11_129 (c_M_in σ p1 0 2) dX11_told_28 rfl rfl ⟨by decide, by decide⟩ (Nat.le_of_ble_eq_true rfl) ⟨Nat.le_refl 0, Nat.le_refl 0⟩ (fun r3 _ => ?_)
      refine at_if_eq (tgt := 38) hC dX11_told_31 rfl (fun _ => ?_) (fun _ => ?_)
      · exact t_M_told_J38 hC hR σ p0 p1 p2
      · refine at_iconst hC ic_1 dX11_told_34 ?_
        refine at_goto (tgt := 39) hC dX11_told_35 rfl ?_
        exact t_M_told_J39 hC hR σ p0 p1 p2 1
  · refine at_iload_n (j := 2) hC rfl rfl dX11_told_5 ?_
    refine at_if_ne (tgt := 13) hC dX11_told_6 rfl (fun _ => ?_) (fun _ => ?_)
    · refine at_iconst hC ic_0 dX11_told_13 ?_
      refine at_goto (tgt := 39) hC dX11_told_14 rfl ?_
      exact t_M_told_J39 hC hR σ p0 p1 p2 0
    · refine at_iconst hC ic_1 dX11_told_9 ?_
      refine at_goto (tgt := 39) hC dX11_told_10 rfl ?_
      exact t_M_told_J39 hC hR σ p0 p1 p2 1
theorem dX11_isDue_0 : decode cX11_isDue 0 = .ok (.iload_n 1, 1) := by decide +kernel
theorem dX11_isDue_1 : decode cX11_isDue 1 = .ok (.iconst 3, 1) := by decide +kernel
theorem dX11_isDue_2 : decode cX11_isDue 2 = .ok (.idiv, 1) := by decide +kernel
theorem dX11_isDue_3 : decode cX11_isDue 3 = .ok (.istore_n 3, 1) := by decide +kernel
theorem dX11_isDue_4 : decode cX11_isDue 4 = .ok (.iload_n 1, 1) := by decide +kernel
theorem dX11_isDue_5 : decode cX11_isDue 5 = .ok (.bipush 72, 2) := by decide +kernel
theorem dX11_isDue_7 : decode cX11_isDue 7 = .ok (.if_icmp .ne 9, 3) := by decide +kernel
theorem dX11_isDue_10 : decode cX11_isDue 10 = .ok (.aload_n 0, 1) := by decide +kernel
theorem dX11_isDue_11 : decode cX11_isDue 11 = .ok (.iload_n 2, 1) := by decide +kernel
theorem dX11_isDue_12 : decode cX11_isDue 12 = .ok (.invokevirtual 426, 3) := by decide +kernel
theorem dX11_isDue_15 : decode cX11_isDue 15 = .ok (.lreturn, 1) := by decide +kernel
theorem dX11_isDue_16 : decode cX11_isDue 16 = .ok (.iload_n 1, 1) := by decide +kernel
theorem dX11_isDue_17 : decode cX11_isDue 17 = .ok (.iconst 3, 1) := by decide +kernel
theorem dX11_isDue_18 : decode cX11_isDue 18 = .ok (.irem, 1) := by decide +kernel
theorem dX11_isDue_19 : decode cX11_isDue 19 = .ok (.ifCond .ne 29, 3) := by decide +kernel
theorem dX11_isDue_22 : decode cX11_isDue 22 = .ok (.aload_n 0, 1) := by decide +kernel
theorem dX11_isDue_23 : decode cX11_isDue 23 = .ok (.getfield 11, 3) := by decide +kernel
theorem dX11_isDue_26 : decode cX11_isDue 26 = .ok (.iload_n 3, 1) := by decide +kernel
theorem dX11_isDue_27 : decode cX11_isDue 27 = .ok (.iaload, 1) := by decide +kernel
theorem dX11_isDue_28 : decode cX11_isDue 28 = .ok (.ifCond .ne 16, 3) := by decide +kernel
theorem dX11_isDue_31 : decode cX11_isDue 31 = .ok (.aload_n 0, 1) := by decide +kernel
theorem dX11_isDue_32 : decode cX11_isDue 32 = .ok (.iload_n 3, 1) := by decide +kernel
theorem dX11_isDue_33 : decode cX11_isDue 33 = .ok (.bipush 100, 2) := by decide +kernel
theorem dX11_isDue_35 : decode cX11_isDue 35 = .ok (.iload_n 2, 1) := by decide +kernel
theorem dX11_isDue_36 : decode cX11_isDue 36 = .ok (.imul, 1) := by decide +kernel
theorem dX11_isDue_37 : decode cX11_isDue 37 = .ok (.invokevirtual 366, 3) := by decide +kernel
theorem dX11_isDue_40 : decode cX11_isDue 40 = .ok (.i2l, 1) := by decide +kernel
theorem dX11_isDue_41 : decode cX11_isDue 41 = .ok (.goto 43, 3) := by decide +kernel
theorem dX11_isDue_44 : decode cX11_isDue 44 = .ok (.lconst 0, 1) := by decide +kernel
theorem dX11_isDue_45 : decode cX11_isDue 45 = .ok (.goto 39, 3) := by decide +kernel
theorem dX11_isDue_48 : decode cX11_isDue 48 = .ok (.iload_n 1, 1) := by decide +kernel
theorem dX11_isDue_49 : decode cX11_isDue 49 = .ok (.iconst 3, 1) := by decide +kernel
theorem dX11_isDue_50 : decode cX11_isDue 50 = .ok (.irem, 1) := by decide +kernel
theorem dX11_isDue_51 : decode cX11_isDue 51 = .ok (.iconst 1, 1) := by decide +kernel
theorem dX11_isDue_52 : decode cX11_isDue 52 = .ok (.if_icmp .ne 26, 3) := by decide +kernel
theorem dX11_isDue_55 : decode cX11_isDue 55 = .ok (.aload_n 0, 1) := by decide +kernel
theorem dX11_isDue_56 : decode cX11_isDue 56 = .ok (.getfield 11, 3) := by decide +kernel
theorem dX11_isDue_59 : decode cX11_isDue 59 = .ok (.iload_n 3, 1) := by decide +kernel
theorem dX11_isDue_60 : decode cX11_isDue 60 = .ok (.iaload, 1) := by decide +kernel
theorem dX11_isDue_61 : decode cX11_isDue 61 = .ok (.iconst 1, 1) := by decide +kernel
theorem dX11_isDue_62 : decode cX11_isDue 62 = .ok (.if_icmp .ne 12, 3) := by decide +kernel
theorem dX11_isDue_65 : decode cX11_isDue 65 = .ok (.aload_n 0, 1) := by decide +kernel
theorem dX11_isDue_66 : decode cX11_isDue 66 = .ok (.iload_n 3, 1) := by decide +kernel
theorem dX11_isDue_67 : decode cX11_isDue 67 = .ok (.iload_n 2, 1) := by decide +kernel
theorem dX11_isDue_68 : decode cX11_isDue 68 = .ok (.invokevirtual 401, 3) := by decide +kernel
theorem dX11_isDue_71 : decode cX11_isDue 71 = .ok (.goto 13, 3) := by decide +kernel
theorem dX11_isDue_74 : decode cX11_isDue 74 = .ok (.lconst 0, 1) := by decide +kernel
theorem dX11_isDue_75 : decode cX11_isDue 75 = .ok (.goto 9, 3) := by decide +kernel
theorem dX11_isDue_78 : decode cX11_isDue 78 = .ok (.aload_n 0, 1) := by decide +kernel
theorem dX11_isDue_79 : decode cX11_isDue 79 = .ok (.iload_n 3, 1) := by decide +kernel
theorem dX11_isDue_80 : decode cX11_isDue 80 = .ok (.iload_n 2, 1) := by decide +kernel
theorem dX11_isDue_81 : decode cX11_isDue 81 = .ok (.invokevirtual 410, 3) := by decide +kernel
theorem dX11_isDue_84 : decode cX11_isDue 84 = .ok (.lreturn, 1) := by decide +kernel
set_option maxRecDepth 100000 in
theorem c_M_isDue (σ : MS) (p0 : Int32) (p1 : Int32) : Ct z (wM z τ) rJ eqA yX11_isDue cX11_isDue 4 (some .long) 624 0 0 [.ref 0, .int p0, .int p1] σ (M_isDue σ p0 p1) := by
  refine Ct.of (by decide) (Nat.le_of_ble_eq_true rfl) (fun ad x hC hR _ => ?_)
  show AT z x 4 (wM z τ) rJ (eqA ad) 0 0 0 0 ad 0 [(0, .ref 0), (1, .int p0), (2, .int p1)] [] σ (M_isDue σ p0 p1)
  unfold M_isDue
  refine at_iload_n (j := 1) hC rfl rfl dX11_isDue_0 ?_
  refine at_iconst hC ic_3 dX11_isDue_1 ?_
  refine at_idiv hC (by decide) dX11_isDue_2 ?_
  refine at_istore_n (lv' := [(3, .int (p0 / 3)), (0, .ref 0), (1, .int p0), (2, .int p1)]) hC rfl dX11_isDue_3 (by decide) rfl ?_
  refine at_iload_n (j := 2) hC rfl rfl dX11_isDue_4 ?_
  refine at_bipush hC bi_72 dX11_isDue_5 ?_
  refine at_icmp_ne (tgt := 16) hC dX11_isDue_7 rfl (fun _ => ?_) (fun _ => ?_)
  · refine at_iload_n (j := 2) hC rfl rfl dX11_isDue_16 ?_
    refine at_iconst hC ic_3 dX11_isDue_17 ?_
    refine at_irem hC (by decide) dX11_isDue_18 ?_
    refine at_if_ne (tgt := 48) hC dX11_isDue_19 rfl (fun _ => ?_) (fun _ => ?_)
    · refine at_iload_n (j := 2) hC rfl rfl dX11_isDue_48 ?_
      refine at_iconst hC ic_3 dX11_isDue_49 ?_
      refine at_irem hC (by decide) dX11_isDue_50 ?_
      refine at_iconst hC ic_1 dX11_isDue_51 ?_
      refine at_icmp_ne (tgt := 78) hC dX11_isDue_52 rfl (fun _ => ?_) (fun _ => ?_)
      · refine at_aload_n (j := 1) hC rfl rfl dX11_isDue_78 ?_
        refine at_iload_n (j := 0) hC rfl rfl dX11_isDue_79 ?_
        refine at_iload_n (j := 3) hC rfl rfl dX11_isDue_80 ?_
        refine at_callVJ hC hR lk_X11_410 (c_M_sumOf σ (p0 / 3) p1) dX11_isDue_81 recX11 rfl rfl ⟨by decide, by decide⟩ (Nat.le_of_ble_eq_true rfl) ⟨Nat.le_refl 0, Nat.le_refl 0⟩ (fun r1 r1s _ => ?_)
        exact at_lret (F := eqA ad) (ra := rJ) hC dX11_isDue_84 rfl (Nat.le_refl 0) (Nat.le_refl 0) rfl
      · refine at_aload_n (j := 1) hC rfl rfl dX11_isDue_55 ?_
        refine gf_X11_11 hC dX11_isDue_56 ?_
        refine at_iload_n (j := 0) hC rfl rfl dX11_isDue_59 ?_
        refine at_iald hC 1 dX11_isDue_60 cl_1 (fun v2 => ?_)
        refine at_iconst hC ic_1 dX11_isDue_61 ?_
        refine at_icmp_ne (tgt := 74) hC dX11_isDue_62 rfl (fun _ => ?_) (fun _ => ?_)
        · refine at_lconst hC lc_0 dX11_isDue_74 ?_
          refine at_goto (tgt := 84) hC dX11_isDue_75 rfl ?_
          exact at_lret (F := eqA ad) (ra := rJ) hC dX11_isDue_84 rfl (Nat.le_refl 0) (Nat.le_refl 0) rfl
        · refine at_aload_n (j := 1) hC rfl rfl dX11_isDue_65 ?_
          refine at_iload_n (j := 0) hC rfl rfl dX11_isDue_66 ?_
          refine at_iload_n (j := 3) hC rfl rfl dX11_isDue_67 ?_
          refine at_callVJ hC hR lk_X11_401 (c_M_rentOf σ (p0 / 3) p1) dX11_isDue_68 recX11 rfl rfl ⟨by decide, by decide⟩ (Nat.le_of_ble_eq_true rfl) ⟨Nat.le_refl 0, Nat.le_refl 0⟩ (fun r3 r3s _ => ?_)
          refine at_goto (tgt := 84) hC dX11_isDue_71 rfl ?_
          exact at_lret (F := eqA ad) (ra := rJ) hC dX11_isDue_84 rfl (Nat.le_refl 0) (Nat.le_refl 0) rfl
    · refine at_aload_n (j := 1) hC rfl rfl dX11_isDue_22 ?_
      refine gf_X11_11 hC dX11_isDue_23 ?_
      refine at_iload_n (j := 0) hC rfl rfl dX11_isDue_26 ?_
      refine at_iald hC 1 dX11_isDue_27 cl_1 (fun v4 => ?_)
      refine at_if_ne (tgt := 44) hC dX11_isDue_28 rfl (fun _ => ?_) (fun _ => ?_)
      · refine at_lconst hC lc_0 dX11_isDue_44 ?_
        refine at_goto (tgt := 84) hC dX11_isDue_45 rfl ?_
        exact at_lret (F := eqA ad) (ra := rJ) hC dX11_isDue_84 rfl (Nat.le_refl 0) (Nat.le_refl 0) rfl
      · refine at_aload_n (j := 1) hC rfl rfl dX11_isDue_31 ?_
        refine at_iload_n (j := 0) hC rfl rfl dX11_isDue_32 ?_
        refine at_bipush hC bi_100 dX11_isDue_33 ?_
        refine at_iload_n (j := 3) hC rfl rfl dX11_isDue_35 ?_
        refine at_imul hC dX11_isDue_36 ?_
        refine at_callVI hC hR lk_X11_366 (c_M_dueOf σ (p0 / 3) (100 * p1)) dX11_isDue_37 recX11 rfl rfl ⟨by decide, by decide⟩ (Nat.le_of_ble_eq_true rfl) ⟨Nat.le_refl 0, Nat.le_refl 0⟩ (fun r5 r5s _ => ?_)
        refine at_i2l hC dX11_isDue_40 ?_
        refine at_goto (tgt := 84) hC dX11_isDue_41 rfl ?_
        exact at_lret (F := eqA ad) (ra := rJ) hC dX11_isDue_84 rfl (Nat.le_refl 0) (Nat.le_refl 0) rfl
  · refine at_aload_n (j := 1) hC rfl rfl dX11_isDue_10 ?_
    refine at_iload_n (j := 3) hC rfl rfl dX11_isDue_11 ?_
    refine at_callVJ hC hR lk_X11_426 (c_M_chestBehind σ p1) dX11_isDue_12 recX11 rfl rfl ⟨by decide, by decide⟩ (Nat.le_of_ble_eq_true rfl) ⟨Nat.le_refl 0, Nat.le_refl 0⟩ (fun r6 r6s _ => ?_)
    exact at_lret (F := eqA ad) (ra := rJ) hC dX11_isDue_15 rfl (Nat.le_refl 0) (Nat.le_refl 0) rfl
theorem dX11_check_0 : decode cX11_check 0 = .ok (.aload_n 0, 1) := by decide +kernel
theorem dX11_check_1 : decode cX11_check 1 = .ok (.iload_n 2, 1) := by decide +kernel
theorem dX11_check_2 : decode cX11_check 2 = .ok (.invokevirtual 212, 3) := by decide +kernel
theorem dX11_check_5 : decode cX11_check 5 = .ok (.ifCond .ne 5, 3) := by decide +kernel
theorem dX11_check_8 : decode cX11_check 8 = .ok (.iconst (-1), 1) := by decide +kernel
theorem dX11_check_9 : decode cX11_check 9 = .ok (.ireturn, 1) := by decide +kernel
theorem dX11_check_10 : decode cX11_check 10 = .ok (.iload_n 1, 1) := by decide +kernel
theorem dX11_check_11 : decode cX11_check 11 = .ok (.invokestatic 379, 3) := by decide +kernel
theorem dX11_check_14 : decode cX11_check 14 = .ok (.ifCond .ne 6, 3) := by decide +kernel
theorem dX11_check_17 : decode cX11_check 17 = .ok (.bipush (-2), 2) := by decide +kernel
theorem dX11_check_19 : decode cX11_check 19 = .ok (.ireturn, 1) := by decide +kernel
theorem dX11_check_20 : decode cX11_check 20 = .ok (.aload_n 0, 1) := by decide +kernel
theorem dX11_check_21 : decode cX11_check 21 = .ok (.iload_n 2, 1) := by decide +kernel
theorem dX11_check_22 : decode cX11_check 22 = .ok (.invokevirtual 143, 3) := by decide +kernel
theorem dX11_check_25 : decode cX11_check 25 = .ok (.iconst 0, 1) := by decide +kernel
theorem dX11_check_26 : decode cX11_check 26 = .ok (.istore_n 3, 1) := by decide +kernel
theorem dX11_check_27 : decode cX11_check 27 = .ok (.iload_n 3, 1) := by decide +kernel
theorem dX11_check_28 : decode cX11_check 28 = .ok (.iconst 3, 1) := by decide +kernel
theorem dX11_check_29 : decode cX11_check 29 = .ok (.aload_n 0, 1) := by decide +kernel
theorem dX11_check_30 : decode cX11_check 30 = .ok (.getfield 126, 3) := by decide +kernel
theorem dX11_check_33 : decode cX11_check 33 = .ok (.imul, 1) := by decide +kernel
theorem dX11_check_34 : decode cX11_check 34 = .ok (.if_icmp .ge 27, 3) := by decide +kernel
theorem dX11_check_37 : decode cX11_check 37 = .ok (.aload_n 0, 1) := by decide +kernel
theorem dX11_check_38 : decode cX11_check 38 = .ok (.getfield 107, 3) := by decide +kernel
theorem dX11_check_41 : decode cX11_check 41 = .ok (.iload_n 3, 1) := by decide +kernel
theorem dX11_check_42 : decode cX11_check 42 = .ok (.laload, 1) := by decide +kernel
theorem dX11_check_43 : decode cX11_check 43 = .ok (.aload_n 0, 1) := by decide +kernel
theorem dX11_check_44 : decode cX11_check 44 = .ok (.iload_n 3, 1) := by decide +kernel
theorem dX11_check_45 : decode cX11_check 45 = .ok (.iload_n 1, 1) := by decide +kernel
theorem dX11_check_46 : decode cX11_check 46 = .ok (.invokevirtual 472, 3) := by decide +kernel
theorem dX11_check_49 : decode cX11_check 49 = .ok (.lcmp, 1) := by decide +kernel
theorem dX11_check_50 : decode cX11_check 50 = .ok (.ifCond .eq 5, 3) := by decide +kernel
theorem dX11_check_53 : decode cX11_check 53 = .ok (.iload_n 3, 1) := by decide +kernel
theorem dX11_check_54 : decode cX11_check 54 = .ok (.ireturn, 1) := by decide +kernel
theorem dX11_check_55 : decode cX11_check 55 = .ok (.iinc 3 1, 3) := by decide +kernel
theorem dX11_check_58 : decode cX11_check 58 = .ok (.goto (-31), 3) := by decide +kernel
theorem dX11_check_61 : decode cX11_check 61 = .ok (.aload_n 0, 1) := by decide +kernel
theorem dX11_check_62 : decode cX11_check 62 = .ok (.getfield 107, 3) := by decide +kernel
theorem dX11_check_65 : decode cX11_check 65 = .ok (.bipush 72, 2) := by decide +kernel
theorem dX11_check_67 : decode cX11_check 67 = .ok (.laload, 1) := by decide +kernel
theorem dX11_check_68 : decode cX11_check 68 = .ok (.aload_n 0, 1) := by decide +kernel
theorem dX11_check_69 : decode cX11_check 69 = .ok (.bipush 72, 2) := by decide +kernel
theorem dX11_check_71 : decode cX11_check 71 = .ok (.iload_n 1, 1) := by decide +kernel
theorem dX11_check_72 : decode cX11_check 72 = .ok (.invokevirtual 472, 3) := by decide +kernel
theorem dX11_check_75 : decode cX11_check 75 = .ok (.lcmp, 1) := by decide +kernel
theorem dX11_check_76 : decode cX11_check 76 = .ok (.ifCond .eq 8, 3) := by decide +kernel
theorem dX11_check_79 : decode cX11_check 79 = .ok (.bipush 100, 2) := by decide +kernel
theorem dX11_check_81 : decode cX11_check 81 = .ok (.goto 5, 3) := by decide +kernel
theorem dX11_check_84 : decode cX11_check 84 = .ok (.bipush (-5), 2) := by decide +kernel
theorem dX11_check_86 : decode cX11_check 86 = .ok (.ireturn, 1) := by decide +kernel
set_option maxRecDepth 100000 in
theorem t_M_check_L27 (hC : CX z ad x cX11_check RX11 4 (some .int)) (hR : x.2.2.1 = rmk 625 0 0) (n : Nat) (σ : MS) (a1 : Int32) (a3 : Int32) : AT z x 4 (wM z τ) rI (eqA ad) 0 0 0 0 ad 27 [(0, .ref 0), (1, .int a1), (3, .int a3)] [] σ (M_check_L27 n σ a1 a3) := by
  revert σ a1 a3
  show ∀ (σ : MS) (a1 : Int32) (a3 : Int32), AT z x 4 (wM z τ) rI (eqA ad) 0 0 0 0 ad 27 [(0, .ref 0), (1, .int a1), (3, .int a3)] [] σ (M_check_L27_r n σ a1 a3)
  induction n with
  | zero => intro σ a1 a3; exact at_none
  | succ n hk_27 =>
    intro σ a1 a3
    unfold M_check_L27_r
    refine at_iload_n (j := 2) hC rfl rfl dX11_check_27 ?_
    refine at_iconst hC ic_3 dX11_check_28 ?_
    refine at_aload_n (j := 0) hC rfl rfl dX11_check_29 ?_
    refine gf_X11_126 hC dX11_check_30 ?_
    refine at_imul hC dX11_check_33 ?_
    refine at_icmp_ge (tgt := 61) hC dX11_check_34 rfl (fun _ => ?_) (fun _ => ?_)
    · refine at_aload_n (j := 0) hC rfl rfl dX11_check_61 ?_
      refine gf_X11_107 hC dX11_check_62 ?_
      refine at_bipush hC bi_72 dX11_check_65 ?_
      refine at_lald hC 31 dX11_check_67 cl_31 (fun v4 => ?_)
      refine at_aload_n (j := 0) hC rfl rfl dX11_check_68 ?_
      refine at_bipush hC bi_72 dX11_check_69 ?_
      refine at_iload_n (j := 1) hC rfl rfl dX11_check_71 ?_
      refine at_callVJ hC hR lk_X11_472 (c_M_isDue σ 72 a1) dX11_check_72 recX11 rfl rfl ⟨by decide, by decide⟩ (Nat.le_of_ble_eq_true rfl) ⟨Nat.le_refl 0, Nat.le_refl 0⟩ (fun r5 r5s _ => ?_)
      refine at_lcmp hC dX11_check_75 ?_
      refine at_if_eq (tgt := 84) hC dX11_check_76 rfl (fun _ => ?_) (fun _ => ?_)
      · refine at_bipush hC bi_m5 dX11_check_84 ?_
        exact at_iret (F := eqA ad) (ra := rI) hC dX11_check_86 rfl (Nat.le_refl 0) (Nat.le_refl 0) rfl
      · refine at_bipush hC bi_100 dX11_check_79 ?_
        refine at_goto (tgt := 86) hC dX11_check_81 rfl ?_
        exact at_iret (F := eqA ad) (ra := rI) hC dX11_check_86 rfl (Nat.le_refl 0) (Nat.le_refl 0) rfl
    · refine at_aload_n (j := 0) hC rfl rfl dX11_check_37 ?_
      refine gf_X11_107 hC dX11_check_38 ?_
      refine at_iload_n (j := 2) hC rfl rfl dX11_check_41 ?_
      refine at_lald hC 31 dX11_check_42 cl_31 (fun v6 => ?_)
      refine at_aload_n (j := 0) hC rfl rfl dX11_check_43 ?_
      refine at_iload_n (j := 2) hC rfl rfl dX11_check_44 ?_
      refine at_iload_n (j := 1) hC rfl rfl dX11_check_45 ?_
      refine at_callVJ hC hR lk_X11_472 (c_M_isDue σ a3 a1) dX11_check_46 recX11 rfl rfl ⟨by decide, by decide⟩ (Nat.le_of_ble_eq_true rfl) ⟨Nat.le_refl 0, Nat.le_refl 0⟩ (fun r7 r7s _ => ?_)
      refine at_lcmp hC dX11_check_49 ?_
      refine at_if_eq (tgt := 55) hC dX11_check_50 rfl (fun _ => ?_) (fun _ => ?_)
      · refine at_iinc (j := 2) (v := a3 + 1) (lv' := [(3, .int (a3 + 1)), (0, .ref 0), (1, .int a1)]) hC dX11_check_55 rfl rfl (by decide) rfl ?_
        refine at_goto (tgt := 27) hC dX11_check_58 rfl ?_
        refine at_drop (lv' := [(0, .ref 0), (1, .int a1), (3, .int (a3 + 1))]) [1, 2, 0] rfl ?_
        exact hk_27 r7s a1 (a3 + 1)
      · refine at_iload_n (j := 2) hC rfl rfl dX11_check_53 ?_
        exact at_iret (F := eqA ad) (ra := rI) hC dX11_check_54 rfl (Nat.le_refl 0) (Nat.le_refl 0) rfl
set_option maxRecDepth 100000 in
theorem c_M_check (σ : MS) (p0 : Int32) (p1 : Int32) : Ct z (wM z τ) rI eqA yX11_check cX11_check 4 (some .int) 625 0 0 [.ref 0, .int p0, .int p1] σ (M_check σ p0 p1) := by
  refine Ct.of (by decide) (Nat.le_of_ble_eq_true rfl) (fun ad x hC hR _ => ?_)
  show AT z x 4 (wM z τ) rI (eqA ad) 0 0 0 0 ad 0 [(0, .ref 0), (1, .int p0), (2, .int p1)] [] σ (M_check σ p0 p1)
  unfold M_check
  refine at_aload_n (j := 0) hC rfl rfl dX11_check_0 ?_
  refine at_iload_n (j := 2) hC rfl rfl dX11_check_1 ?_
  refine at_callVpI hC hR lk_X11_212 (c_M_isBy σ p1) dX11_check_2 recX11 rfl rfl ⟨by decide, by decide⟩ (Nat.le_of_ble_eq_true rfl) ⟨Nat.le_refl 0, Nat.le_refl 0⟩ (fun r1 _ => ?_)
  refine at_if_ne (tgt := 10) hC dX11_check_5 rfl (fun _ => ?_) (fun _ => ?_)
  · refine at_iload_n (j := 1) hC rfl rfl dX11_check_10 ?_
    refine at_callSpI hC hR lk_X11_379 (c_M_isYear σ p0) dX11_check_11 rfl rfl ⟨by decide, by decide⟩ (Nat.le_of_ble_eq_true rfl) ⟨Nat.le_refl 0, Nat.le_refl 0⟩ (fun r2 _ => ?_)
    refine at_if_ne (tgt := 20) hC dX11_check_14 rfl (fun _ => ?_) (fun _ => ?_)
    · refine at_aload_n (j := 0) hC rfl rfl dX11_check_20 ?_
      refine at_iload_n (j := 2) hC rfl rfl dX11_check_21 ?_
      refine at_callVU hC hR lk_X11_143 (c_M_looks σ p1) dX11_check_22 recX11 rfl rfl ⟨by decide, by decide⟩ (Nat.le_of_ble_eq_true rfl) ⟨Nat.le_refl 0, Nat.le_refl 0⟩ (fun r3 r3s _ => ?_)
      refine at_iconst hC ic_0 dX11_check_25 ?_
      refine at_istore_n (lv' := [(3, .int 0), (0, .ref 0), (1, .int p0), (2, .int p1)]) hC rfl dX11_check_26 (by decide) rfl ?_
      refine at_drop (lv' := [(0, .ref 0), (1, .int p0), (3, .int 0)]) [1, 2, 0] rfl ?_
      exact t_M_check_L27 hC hR 100000 r3s p0 0
    · refine at_bipush hC bi_m2 dX11_check_17 ?_
      exact at_iret (F := eqA ad) (ra := rI) hC dX11_check_19 rfl (Nat.le_refl 0) (Nat.le_refl 0) rfl
  · refine at_iconst hC ic_m1 dX11_check_8 ?_
    exact at_iret (F := eqA ad) (ra := rI) hC dX11_check_9 rfl (Nat.le_refl 0) (Nat.le_refl 0) rfl
theorem dX11_judge_0 : decode cX11_judge 0 = .ok (.aload_n 0, 1) := by decide +kernel
theorem dX11_judge_1 : decode cX11_judge 1 = .ok (.iload_n 2, 1) := by decide +kernel
theorem dX11_judge_2 : decode cX11_judge 2 = .ok (.invokevirtual 212, 3) := by decide +kernel
theorem dX11_judge_5 : decode cX11_judge 5 = .ok (.ifCond .ne 5, 3) := by decide +kernel
theorem dX11_judge_8 : decode cX11_judge 8 = .ok (.iconst (-1), 1) := by decide +kernel
theorem dX11_judge_9 : decode cX11_judge 9 = .ok (.ireturn, 1) := by decide +kernel
theorem dX11_judge_10 : decode cX11_judge 10 = .ok (.iload_n 1, 1) := by decide +kernel
theorem dX11_judge_11 : decode cX11_judge 11 = .ok (.invokestatic 379, 3) := by decide +kernel
theorem dX11_judge_14 : decode cX11_judge 14 = .ok (.ifCond .ne 6, 3) := by decide +kernel
theorem dX11_judge_17 : decode cX11_judge 17 = .ok (.bipush (-2), 2) := by decide +kernel
theorem dX11_judge_19 : decode cX11_judge 19 = .ok (.ireturn, 1) := by decide +kernel
theorem dX11_judge_20 : decode cX11_judge 20 = .ok (.aload_n 0, 1) := by decide +kernel
theorem dX11_judge_21 : decode cX11_judge 21 = .ok (.iload_n 2, 1) := by decide +kernel
theorem dX11_judge_22 : decode cX11_judge 22 = .ok (.invokevirtual 143, 3) := by decide +kernel
theorem dX11_judge_25 : decode cX11_judge 25 = .ok (.iconst 0, 1) := by decide +kernel
theorem dX11_judge_26 : decode cX11_judge 26 = .ok (.istore_n 3, 1) := by decide +kernel
theorem dX11_judge_27 : decode cX11_judge 27 = .ok (.iconst 0, 1) := by decide +kernel
theorem dX11_judge_28 : decode cX11_judge 28 = .ok (.istore 4, 2) := by decide +kernel
theorem dX11_judge_30 : decode cX11_judge 30 = .ok (.iload 4, 2) := by decide +kernel
theorem dX11_judge_32 : decode cX11_judge 32 = .ok (.bipush 72, 2) := by decide +kernel
theorem dX11_judge_34 : decode cX11_judge 34 = .ok (.if_icmp .gt 66, 3) := by decide +kernel
theorem dX11_judge_37 : decode cX11_judge 37 = .ok (.iload 4, 2) := by decide +kernel
theorem dX11_judge_39 : decode cX11_judge 39 = .ok (.iconst 3, 1) := by decide +kernel
theorem dX11_judge_40 : decode cX11_judge 40 = .ok (.aload_n 0, 1) := by decide +kernel
theorem dX11_judge_41 : decode cX11_judge 41 = .ok (.getfield 126, 3) := by decide +kernel
theorem dX11_judge_44 : decode cX11_judge 44 = .ok (.imul, 1) := by decide +kernel
theorem dX11_judge_45 : decode cX11_judge 45 = .ok (.if_icmp .lt 10, 3) := by decide +kernel
theorem dX11_judge_48 : decode cX11_judge 48 = .ok (.iload 4, 2) := by decide +kernel
theorem dX11_judge_50 : decode cX11_judge 50 = .ok (.bipush 72, 2) := by decide +kernel
theorem dX11_judge_52 : decode cX11_judge 52 = .ok (.if_icmp .ne 42, 3) := by decide +kernel
theorem dX11_judge_55 : decode cX11_judge 55 = .ok (.aload_n 0, 1) := by decide +kernel
theorem dX11_judge_56 : decode cX11_judge 56 = .ok (.iload 4, 2) := by decide +kernel
theorem dX11_judge_58 : decode cX11_judge 58 = .ok (.iload_n 1, 1) := by decide +kernel
theorem dX11_judge_59 : decode cX11_judge 59 = .ok (.invokevirtual 472, 3) := by decide +kernel
theorem dX11_judge_62 : decode cX11_judge 62 = .ok (.lstore 5, 2) := by decide +kernel
theorem dX11_judge_64 : decode cX11_judge 64 = .ok (.iload_n 3, 1) := by decide +kernel
theorem dX11_judge_65 : decode cX11_judge 65 = .ok (.lload 5, 2) := by decide +kernel
theorem dX11_judge_67 : decode cX11_judge 67 = .ok (.aload_n 0, 1) := by decide +kernel
theorem dX11_judge_68 : decode cX11_judge 68 = .ok (.getfield 107, 3) := by decide +kernel
theorem dX11_judge_71 : decode cX11_judge 71 = .ok (.iload 4, 2) := by decide +kernel
theorem dX11_judge_73 : decode cX11_judge 73 = .ok (.laload, 1) := by decide +kernel
theorem dX11_judge_74 : decode cX11_judge 74 = .ok (.lcmp, 1) := by decide +kernel
theorem dX11_judge_75 : decode cX11_judge 75 = .ok (.ifCond .eq 7, 3) := by decide +kernel
theorem dX11_judge_78 : decode cX11_judge 78 = .ok (.iconst 1, 1) := by decide +kernel
theorem dX11_judge_79 : decode cX11_judge 79 = .ok (.goto 4, 3) := by decide +kernel
theorem dX11_judge_82 : decode cX11_judge 82 = .ok (.iconst 0, 1) := by decide +kernel
theorem dX11_judge_83 : decode cX11_judge 83 = .ok (.iadd, 1) := by decide +kernel
theorem dX11_judge_84 : decode cX11_judge 84 = .ok (.istore_n 3, 1) := by decide +kernel
theorem dX11_judge_85 : decode cX11_judge 85 = .ok (.aload_n 0, 1) := by decide +kernel
theorem dX11_judge_86 : decode cX11_judge 86 = .ok (.getfield 107, 3) := by decide +kernel
theorem dX11_judge_89 : decode cX11_judge 89 = .ok (.iload 4, 2) := by decide +kernel
theorem dX11_judge_91 : decode cX11_judge 91 = .ok (.lload 5, 2) := by decide +kernel
theorem dX11_judge_93 : decode cX11_judge 93 = .ok (.lastore, 1) := by decide +kernel
theorem dX11_judge_94 : decode cX11_judge 94 = .ok (.iinc 4 1, 3) := by decide +kernel
theorem dX11_judge_97 : decode cX11_judge 97 = .ok (.goto (-67), 3) := by decide +kernel
theorem dX11_judge_100 : decode cX11_judge 100 = .ok (.iload_n 3, 1) := by decide +kernel
theorem dX11_judge_101 : decode cX11_judge 101 = .ok (.ireturn, 1) := by decide +kernel
set_option maxRecDepth 100000 in
theorem t_M_judge_J94 (hC : CX z ad x cX11_judge RX11 7 (some .int)) (hR : x.2.2.1 = rmk 625 0 0) (k_30 : MS → Int32 → Int32 → Int32 → Option (Int32 × MS)) (hk_30 : ∀ (σ : MS) (a1 : Int32) (a3 : Int32) (a4 : Int32), AT z x 7 (wM z τ) rI (eqA ad) 0 0 0 0 ad 30 [(0, .ref 0), (1, .int a1), (3, .int a3), (4, .int a4)] [] σ (k_30 σ a1 a3 a4)) (σ : MS) (a1 : Int32) (a3 : Int32) (a4 : Int32) : AT z x 7 (wM z τ) rI (eqA ad) 0 0 0 0 ad 94 [(0, .ref 0), (1, .int a1), (3, .int a3), (4, .int a4)] [] σ (M_judge_J94 k_30 σ a1 a3 a4) := by
  unfold M_judge_J94
  refine at_iinc (j := 3) (v := a4 + 1) (lv' := [(4, .int (a4 + 1)), (0, .ref 0), (1, .int a1), (3, .int a3)]) hC dX11_judge_94 rfl rfl (by decide) rfl ?_
  refine at_goto (tgt := 30) hC dX11_judge_97 rfl ?_
  refine at_drop (lv' := [(0, .ref 0), (1, .int a1), (3, .int a3), (4, .int (a4 + 1))]) [1, 2, 3, 0] rfl ?_
  exact hk_30 σ a1 a3 (a4 + 1)
set_option maxRecDepth 100000 in
theorem t_M_judge_J83 (hC : CX z ad x cX11_judge RX11 7 (some .int)) (hR : x.2.2.1 = rmk 625 0 0) (k_30 : MS → Int32 → Int32 → Int32 → Option (Int32 × MS)) (hk_30 : ∀ (σ : MS) (a1 : Int32) (a3 : Int32) (a4 : Int32), AT z x 7 (wM z τ) rI (eqA ad) 0 0 0 0 ad 30 [(0, .ref 0), (1, .int a1), (3, .int a3), (4, .int a4)] [] σ (k_30 σ a1 a3 a4)) (σ : MS) (a1 : Int32) (a4 : Int32) (a5 : Int64) (s0 : Int32) (s1 : Int32) : AT z x 7 (wM z τ) rI (eqA ad) 0 0 0 0 ad 83 [(0, .ref 0), (1, .int a1), (4, .int a4), (5, .long a5)] [.int s0, .int s1] σ (M_judge_J83 k_30 σ a1 a4 a5 s0 s1) := by
  unfold M_judge_J83
  refine at_iadd hC dX11_judge_83 ?_
  refine at_istore_n (lv' := [(3, .int (s1 + s0)), (0, .ref 0), (1, .int a1), (4, .int a4), (5, .long a5)]) hC rfl dX11_judge_84 (by decide) rfl ?_
  refine at_aload_n (j := 1) hC rfl rfl dX11_judge_85 ?_
  refine gf_X11_107 hC dX11_judge_86 ?_
  refine at_iload (j := 3) hC rfl dX11_judge_89 ?_
  refine at_lload (j := 4) hC rfl dX11_judge_91 ?_
  refine at_last hC 31 dX11_judge_93 cl_31 st_31 ?_
  refine at_drop (lv' := [(0, .ref 0), (1, .int a1), (3, .int (s1 + s0)), (4, .int a4)]) [1, 2, 0, 3] rfl ?_
  exact t_M_judge_J94 hC hR k_30 hk_30 (sJ σ (vp_updL σ.2.2 a4.toNatClampNeg a5)) a1 (s1 + s0) a4
set_option maxRecDepth 100000 in
theorem t_M_judge_J55 (hC : CX z ad x cX11_judge RX11 7 (some .int)) (hR : x.2.2.1 = rmk 625 0 0) (k_30 : MS → Int32 → Int32 → Int32 → Option (Int32 × MS)) (hk_30 : ∀ (σ : MS) (a1 : Int32) (a3 : Int32) (a4 : Int32), AT z x 7 (wM z τ) rI (eqA ad) 0 0 0 0 ad 30 [(0, .ref 0), (1, .int a1), (3, .int a3), (4, .int a4)] [] σ (k_30 σ a1 a3 a4)) (σ : MS) (a1 : Int32) (a3 : Int32) (a4 : Int32) : AT z x 7 (wM z τ) rI (eqA ad) 0 0 0 0 ad 55 [(0, .ref 0), (1, .int a1), (3, .int a3), (4, .int a4)] [] σ (M_judge_J55 k_30 σ a1 a3 a4) := by
  unfold M_judge_J55
  refine at_aload_n (j := 0) hC rfl rfl dX11_judge_55 ?_
  refine at_iload (j := 3) hC rfl dX11_judge_56 ?_
  refine at_iload_n (j := 1) hC rfl rfl dX11_judge_58 ?_
  refine at_callVJ hC hR lk_X11_472 (c_M_isDue σ a4 a1) dX11_judge_59 recX11 rfl rfl ⟨by decide, by decide⟩ (Nat.le_of_ble_eq_true rfl) ⟨Nat.le_refl 0, Nat.le_refl 0⟩ (fun r4 r4s _ => ?_)
  refine at_lstore (lv' := [(5, .long r4), (0, .ref 0), (1, .int a1), (3, .int a3), (4, .int a4)]) hC dX11_judge_62 (by decide) rfl ?_
  refine at_iload_n (j := 3) hC rfl rfl dX11_judge_64 ?_
  refine at_lload (j := 0) hC rfl dX11_judge_65 ?_
  refine at_aload_n (j := 1) hC rfl rfl dX11_judge_67 ?_
  refine gf_X11_107 hC dX11_judge_68 ?_
  refine at_iload (j := 4) hC rfl dX11_judge_71 ?_
  refine at_lald hC 31 dX11_judge_73 cl_31 (fun v5 => ?_)
  refine at_lcmp hC dX11_judge_74 ?_
  refine at_if_eq (tgt := 82) hC dX11_judge_75 rfl (fun _ => ?_) (fun _ => ?_)
  · refine at_iconst hC ic_0 dX11_judge_82 ?_
    refine at_drop (lv' := [(0, .ref 0), (1, .int a1), (4, .int a4), (5, .long r4)]) [1, 2, 4, 0] rfl ?_
    exact t_M_judge_J83 hC hR k_30 hk_30 r4s a1 a4 r4 0 a3
  · refine at_iconst hC ic_1 dX11_judge_78 ?_
    refine at_goto (tgt := 83) hC dX11_judge_79 rfl ?_
    refine at_drop (lv' := [(0, .ref 0), (1, .int a1), (4, .int a4), (5, .long r4)]) [1, 2, 4, 0] rfl ?_
    exact t_M_judge_J83 hC hR k_30 hk_30 r4s a1 a4 r4 1 a3
set_option maxRecDepth 100000 in
theorem t_M_judge_L30 (hC : CX z ad x cX11_judge RX11 7 (some .int)) (hR : x.2.2.1 = rmk 625 0 0) (n : Nat) (σ : MS) (a1 : Int32) (a3 : Int32) (a4 : Int32) : AT z x 7 (wM z τ) rI (eqA ad) 0 0 0 0 ad 30 [(0, .ref 0), (1, .int a1), (3, .int a3), (4, .int a4)] [] σ (M_judge_L30 n σ a1 a3 a4) := by
  revert σ a1 a3 a4
  show ∀ (σ : MS) (a1 : Int32) (a3 : Int32) (a4 : Int32), AT z x 7 (wM z τ) rI (eqA ad) 0 0 0 0 ad 30 [(0, .ref 0), (1, .int a1), (3, .int a3), (4, .int a4)] [] σ (M_judge_L30_r n σ a1 a3 a4)
  induction n with
  | zero => intro σ a1 a3 a4; exact at_none
  | succ n hk_30 =>
    intro σ a1 a3 a4
    unfold M_judge_L30_r
    refine at_iload (j := 3) hC rfl dX11_judge_30 ?_
    refine at_bipush hC bi_72 dX11_judge_32 ?_
    refine at_icmp_gt (tgt := 100) hC dX11_judge_34 rfl (fun _ => ?_) (fun _ => ?_)
    · refine at_iload_n (j := 2) hC rfl rfl dX11_judge_100 ?_
      exact at_iret (F := eqA ad) (ra := rI) hC dX11_judge_101 rfl (Nat.le_refl 0) (Nat.le_refl 0) rfl
    · refine at_iload (j := 3) hC rfl dX11_judge_37 ?_
      refine at_iconst hC ic_3 dX11_judge_39 ?_
      refine at_aload_n (j := 0) hC rfl rfl dX11_judge_40 ?_
      refine gf_X11_126 hC dX11_judge_41 ?_
      refine at_imul hC dX11_judge_44 ?_
      refine at_icmp_lt (tgt := 55) hC dX11_judge_45 rfl (fun _ => ?_) (fun _ => ?_)
      · exact t_M_judge_J55 hC hR (M_judge_L30_r n) hk_30 σ a1 a3 a4
      · refine at_iload (j := 3) hC rfl dX11_judge_48 ?_
        refine at_bipush hC bi_72 dX11_judge_50 ?_
        refine at_icmp_ne (tgt := 94) hC dX11_judge_52 rfl (fun _ => ?_) (fun _ => ?_)
        · exact t_M_judge_J94 hC hR (M_judge_L30_r n) hk_30 σ a1 a3 a4
        · exact t_M_judge_J55 hC hR (M_judge_L30_r n) hk_30 σ a1 a3 a4
set_option maxRecDepth 100000 in
theorem c_M_judge (σ : MS) (p0 : Int32) (p1 : Int32) : Ct z (wM z τ) rI eqA yX11_judge cX11_judge 7 (some .int) 625 0 0 [.ref 0, .int p0, .int p1] σ (M_judge σ p0 p1) := by
  refine Ct.of (by decide) (Nat.le_of_ble_eq_true rfl) (fun ad x hC hR _ => ?_)
  show AT z x 7 (wM z τ) rI (eqA ad) 0 0 0 0 ad 0 [(0, .ref 0), (1, .int p0), (2, .int p1)] [] σ (M_judge σ p0 p1)
  unfold M_judge
  refine at_aload_n (j := 0) hC rfl rfl dX11_judge_0 ?_
  refine at_iload_n (j := 2) hC rfl rfl dX11_judge_1 ?_
  refine at_callVpI hC hR lk_X11_212 (c_M_isBy σ p1) dX11_judge_2 recX11 rfl rfl ⟨by decide, by decide⟩ (Nat.le_of_ble_eq_true rfl) ⟨Nat.le_refl 0, Nat.le_refl 0⟩ (fun r1 _ => ?_)
  refine at_if_ne (tgt := 10) hC dX11_judge_5 rfl (fun _ => ?_) (fun _ => ?_)
  · refine at_iload_n (j := 1) hC rfl rfl dX11_judge_10 ?_
    refine at_callSpI hC hR lk_X11_379 (c_M_isYear σ p0) dX11_judge_11 rfl rfl ⟨by decide, by decide⟩ (Nat.le_of_ble_eq_true rfl) ⟨Nat.le_refl 0, Nat.le_refl 0⟩ (fun r2 _ => ?_)
    refine at_if_ne (tgt := 20) hC dX11_judge_14 rfl (fun _ => ?_) (fun _ => ?_)
    · refine at_aload_n (j := 0) hC rfl rfl dX11_judge_20 ?_
      refine at_iload_n (j := 2) hC rfl rfl dX11_judge_21 ?_
      refine at_callVU hC hR lk_X11_143 (c_M_looks σ p1) dX11_judge_22 recX11 rfl rfl ⟨by decide, by decide⟩ (Nat.le_of_ble_eq_true rfl) ⟨Nat.le_refl 0, Nat.le_refl 0⟩ (fun r3 r3s _ => ?_)
      refine at_iconst hC ic_0 dX11_judge_25 ?_
      refine at_istore_n (lv' := [(3, .int 0), (0, .ref 0), (1, .int p0), (2, .int p1)]) hC rfl dX11_judge_26 (by decide) rfl ?_
      refine at_iconst hC ic_0 dX11_judge_27 ?_
      refine at_istore (lv' := [(4, .int 0), (3, .int 0), (0, .ref 0), (1, .int p0), (2, .int p1)]) hC dX11_judge_28 (by decide) rfl ?_
      refine at_drop (lv' := [(0, .ref 0), (1, .int p0), (3, .int 0), (4, .int 0)]) [2, 3, 1, 0] rfl ?_
      exact t_M_judge_L30 hC hR 100000 r3s p0 0 0
    · refine at_bipush hC bi_m2 dX11_judge_17 ?_
      exact at_iret (F := eqA ad) (ra := rI) hC dX11_judge_19 rfl (Nat.le_refl 0) (Nat.le_refl 0) rfl
  · refine at_iconst hC ic_m1 dX11_judge_8 ?_
    exact at_iret (F := eqA ad) (ra := rI) hC dX11_judge_9 rfl (Nat.le_refl 0) (Nat.le_refl 0) rfl
end G
