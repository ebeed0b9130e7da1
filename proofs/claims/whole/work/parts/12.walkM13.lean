section G
variable {z : ZZ} {x : XX} {ad : Nat → Nat} {τ : XS}
theorem dX11_own_0 : decode cX11_own 0 = .ok (.iload_n 1, 1) := by decide +kernel
theorem dX11_own_1 : decode cX11_own 1 = .ok (.iconst 0, 1) := by decide +kernel
theorem dX11_own_2 : decode cX11_own 2 = .ok (.bipush 99, 2) := by decide +kernel
theorem dX11_own_4 : decode cX11_own 4 = .ok (.invokestatic 129, 3) := by decide +kernel
theorem dX11_own_7 : decode cX11_own 7 = .ok (.ifCond .eq 21, 3) := by decide +kernel
theorem dX11_own_10 : decode cX11_own 10 = .ok (.aload_n 0, 1) := by decide +kernel
theorem dX11_own_11 : decode cX11_own 11 = .ok (.iload_n 3, 1) := by decide +kernel
theorem dX11_own_12 : decode cX11_own 12 = .ok (.invokevirtual 212, 3) := by decide +kernel
theorem dX11_own_15 : decode cX11_own 15 = .ok (.ifCond .eq 13, 3) := by decide +kernel
theorem dX11_own_18 : decode cX11_own 18 = .ok (.iload 4, 2) := by decide +kernel
theorem dX11_own_20 : decode cX11_own 20 = .ok (.iconst 0, 1) := by decide +kernel
theorem dX11_own_21 : decode cX11_own 21 = .ok (.iconst 1, 1) := by decide +kernel
theorem dX11_own_22 : decode cX11_own 22 = .ok (.invokestatic 129, 3) := by decide +kernel
theorem dX11_own_25 : decode cX11_own 25 = .ok (.ifCond .ne 5, 3) := by decide +kernel
theorem dX11_own_28 : decode cX11_own 28 = .ok (.iconst (-1), 1) := by decide +kernel
theorem dX11_own_29 : decode cX11_own 29 = .ok (.ireturn, 1) := by decide +kernel
theorem dX11_own_30 : decode cX11_own 30 = .ok (.iload_n 2, 1) := by decide +kernel
theorem dX11_own_31 : decode cX11_own 31 = .ok (.invokestatic 177, 3) := by decide +kernel
theorem dX11_own_34 : decode cX11_own 34 = .ok (.ifCond .ne 6, 3) := by decide +kernel
theorem dX11_own_37 : decode cX11_own 37 = .ok (.bipush (-2), 2) := by decide +kernel
theorem dX11_own_39 : decode cX11_own 39 = .ok (.ireturn, 1) := by decide +kernel
theorem dX11_own_40 : decode cX11_own 40 = .ok (.aload_n 0, 1) := by decide +kernel
theorem dX11_own_41 : decode cX11_own 41 = .ok (.iload_n 3, 1) := by decide +kernel
theorem dX11_own_42 : decode cX11_own 42 = .ok (.invokevirtual 143, 3) := by decide +kernel
theorem dX11_own_45 : decode cX11_own 45 = .ok (.iconst 0, 1) := by decide +kernel
theorem dX11_own_46 : decode cX11_own 46 = .ok (.istore 5, 2) := by decide +kernel
theorem dX11_own_48 : decode cX11_own 48 = .ok (.iconst 0, 1) := by decide +kernel
theorem dX11_own_49 : decode cX11_own 49 = .ok (.istore 6, 2) := by decide +kernel
theorem dX11_own_51 : decode cX11_own 51 = .ok (.iload 6, 2) := by decide +kernel
theorem dX11_own_53 : decode cX11_own 53 = .ok (.aload_n 0, 1) := by decide +kernel
theorem dX11_own_54 : decode cX11_own 54 = .ok (.getfield 126, 3) := by decide +kernel
theorem dX11_own_57 : decode cX11_own 57 = .ok (.if_icmp .ge 125, 3) := by decide +kernel
theorem dX11_own_60 : decode cX11_own 60 = .ok (.aload_n 0, 1) := by decide +kernel
theorem dX11_own_61 : decode cX11_own 61 = .ok (.getfield 15, 3) := by decide +kernel
theorem dX11_own_64 : decode cX11_own 64 = .ok (.iload 6, 2) := by decide +kernel
theorem dX11_own_66 : decode cX11_own 66 = .ok (.iaload, 1) := by decide +kernel
theorem dX11_own_67 : decode cX11_own 67 = .ok (.bipush 100, 2) := by decide +kernel
theorem dX11_own_69 : decode cX11_own 69 = .ok (.iload_n 1, 1) := by decide +kernel
theorem dX11_own_70 : decode cX11_own 70 = .ok (.imul, 1) := by decide +kernel
theorem dX11_own_71 : decode cX11_own 71 = .ok (.iadd, 1) := by decide +kernel
theorem dX11_own_72 : decode cX11_own 72 = .ok (.bipush 99, 2) := by decide +kernel
theorem dX11_own_74 : decode cX11_own 74 = .ok (.iadd, 1) := by decide +kernel
theorem dX11_own_75 : decode cX11_own 75 = .ok (.istore 7, 2) := by decide +kernel
theorem dX11_own_77 : decode cX11_own 77 = .ok (.aload_n 0, 1) := by decide +kernel
theorem dX11_own_78 : decode cX11_own 78 = .ok (.getfield 114, 3) := by decide +kernel
theorem dX11_own_81 : decode cX11_own 81 = .ok (.iload 6, 2) := by decide +kernel
theorem dX11_own_83 : decode cX11_own 83 = .ok (.iaload, 1) := by decide +kernel
theorem dX11_own_84 : decode cX11_own 84 = .ok (.sipush 10000, 3) := by decide +kernel
theorem dX11_own_87 : decode cX11_own 87 = .ok (.if_icmp .eq 35, 3) := by decide +kernel
theorem dX11_own_90 : decode cX11_own 90 = .ok (.aload_n 0, 1) := by decide +kernel
theorem dX11_own_91 : decode cX11_own 91 = .ok (.getfield 114, 3) := by decide +kernel
theorem dX11_own_94 : decode cX11_own 94 = .ok (.iload 6, 2) := by decide +kernel
theorem dX11_own_96 : decode cX11_own 96 = .ok (.iaload, 1) := by decide +kernel
theorem dX11_own_97 : decode cX11_own 97 = .ok (.iload_n 2, 1) := by decide +kernel
theorem dX11_own_98 : decode cX11_own 98 = .ok (.if_icmp .gt 24, 3) := by decide +kernel
theorem dX11_own_101 : decode cX11_own 101 = .ok (.aload_n 0, 1) := by decide +kernel
theorem dX11_own_102 : decode cX11_own 102 = .ok (.iload 6, 2) := by decide +kernel
theorem dX11_own_104 : decode cX11_own 104 = .ok (.aload_n 0, 1) := by decide +kernel
theorem dX11_own_105 : decode cX11_own 105 = .ok (.getfield 114, 3) := by decide +kernel
theorem dX11_own_108 : decode cX11_own 108 = .ok (.iload 6, 2) := by decide +kernel
theorem dX11_own_110 : decode cX11_own 110 = .ok (.iaload, 1) := by decide +kernel
theorem dX11_own_111 : decode cX11_own 111 = .ok (.invokevirtual 206, 3) := by decide +kernel
theorem dX11_own_114 : decode cX11_own 114 = .ok (.iload_n 1, 1) := by decide +kernel
theorem dX11_own_115 : decode cX11_own 115 = .ok (.if_icmp .ne 7, 3) := by decide +kernel
theorem dX11_own_118 : decode cX11_own 118 = .ok (.iconst 1, 1) := by decide +kernel
theorem dX11_own_119 : decode cX11_own 119 = .ok (.goto 4, 3) := by decide +kernel
theorem dX11_own_122 : decode cX11_own 122 = .ok (.iconst 0, 1) := by decide +kernel
theorem dX11_own_123 : decode cX11_own 123 = .ok (.istore 8, 2) := by decide +kernel
theorem dX11_own_125 : decode cX11_own 125 = .ok (.iload 7, 2) := by decide +kernel
theorem dX11_own_127 : decode cX11_own 127 = .ok (.iload_n 2, 1) := by decide +kernel
theorem dX11_own_128 : decode cX11_own 128 = .ok (.if_icmp .gt 19, 3) := by decide +kernel
theorem dX11_own_131 : decode cX11_own 131 = .ok (.aload_n 0, 1) := by decide +kernel
theorem dX11_own_132 : decode cX11_own 132 = .ok (.getfield 114, 3) := by decide +kernel
theorem dX11_own_135 : decode cX11_own 135 = .ok (.iload 6, 2) := by decide +kernel
theorem dX11_own_137 : decode cX11_own 137 = .ok (.iaload, 1) := by decide +kernel
theorem dX11_own_138 : decode cX11_own 138 = .ok (.iload 7, 2) := by decide +kernel
theorem dX11_own_140 : decode cX11_own 140 = .ok (.if_icmp .le 7, 3) := by decide +kernel
theorem dX11_own_143 : decode cX11_own 143 = .ok (.iconst 1, 1) := by decide +kernel
theorem dX11_own_144 : decode cX11_own 144 = .ok (.goto 4, 3) := by decide +kernel
theorem dX11_own_147 : decode cX11_own 147 = .ok (.iconst 0, 1) := by decide +kernel
theorem dX11_own_148 : decode cX11_own 148 = .ok (.istore 9, 2) := by decide +kernel
theorem dX11_own_150 : decode cX11_own 150 = .ok (.iload 5, 2) := by decide +kernel
theorem dX11_own_152 : decode cX11_own 152 = .ok (.iload 8, 2) := by decide +kernel
theorem dX11_own_154 : decode cX11_own 154 = .ok (.ifCond .ne 14, 3) := by decide +kernel
theorem dX11_own_157 : decode cX11_own 157 = .ok (.iload 4, 2) := by decide +kernel
theorem dX11_own_159 : decode cX11_own 159 = .ok (.iconst 1, 1) := by decide +kernel
theorem dX11_own_160 : decode cX11_own 160 = .ok (.if_icmp .ne 12, 3) := by decide +kernel
theorem dX11_own_163 : decode cX11_own 163 = .ok (.iload 9, 2) := by decide +kernel
theorem dX11_own_165 : decode cX11_own 165 = .ok (.ifCond .eq 7, 3) := by decide +kernel
theorem dX11_own_168 : decode cX11_own 168 = .ok (.iconst 1, 1) := by decide +kernel
theorem dX11_own_169 : decode cX11_own 169 = .ok (.goto 4, 3) := by decide +kernel
theorem dX11_own_172 : decode cX11_own 172 = .ok (.iconst 0, 1) := by decide +kernel
theorem dX11_own_173 : decode cX11_own 173 = .ok (.iadd, 1) := by decide +kernel
theorem dX11_own_174 : decode cX11_own 174 = .ok (.istore 5, 2) := by decide +kernel
theorem dX11_own_176 : decode cX11_own 176 = .ok (.iinc 6 1, 3) := by decide +kernel
theorem dX11_own_179 : decode cX11_own 179 = .ok (.goto (-128), 3) := by decide +kernel
theorem dX11_own_182 : decode cX11_own 182 = .ok (.iload 5, 2) := by decide +kernel
theorem dX11_own_184 : decode cX11_own 184 = .ok (.ireturn, 1) := by decide +kernel
set_option maxRecDepth 100000 in
theorem t_M_own_J173 (hC : CX z ad x cX11_own RX11 10 (some .int)) (hR : x.2.2.1 = rmk 3 0 0) (k_51 : MS → Int32 → Int32 → Int32 → Int32 → Int32 → Option (Int32 × MS)) (hk_51 : ∀ (σ : MS) (a1 : Int32) (a2 : Int32) (a4 : Int32) (a5 : Int32) (a6 : Int32), AT z x 10 (wM z τ) rI (eqA ad) 0 0 0 0 ad 51 [(0, .ref 0), (1, .int a1), (2, .int a2), (4, .int a4), (5, .int a5), (6, .int a6)] [] σ (k_51 σ a1 a2 a4 a5 a6)) (σ : MS) (a1 : Int32) (a2 : Int32) (a4 : Int32) (a6 : Int32) (s0 : Int32) (s1 : Int32) : AT z x 10 (wM z τ) rI (eqA ad) 0 0 0 0 ad 173 [(0, .ref 0), (1, .int a1), (2, .int a2), (4, .int a4), (6, .int a6)] [.int s0, .int s1] σ (M_own_J173 k_51 σ a1 a2 a4 a6 s0 s1) := by
  unfold M_own_J173
  refine at_iadd hC dX11_own_173 ?_
  refine at_istore (lv' := [(5, .int (s1 + s0)), (0, .ref 0), (1, .int a1), (2, .int a2), (4, .int a4), (6, .int a6)]) hC dX11_own_174 (by decide) rfl ?_
  refine at_iinc (j := 5) (v := a6 + 1) (lv' := [(6, .int (a6 + 1)), (5, .int (s1 + s0)), (0, .ref 0), (1, .int a1), (2, .int a2), (4, .int a4)]) hC dX11_own_176 rfl rfl (by decide) rfl ?_
  refine at_goto (tgt := 51) hC dX11_own_179 rfl ?_
  refine at_drop (lv' := [(0, .ref 0), (1, .int a1), (2, .int a2), (4, .int a4), (5, .int (s1 + s0)), (6, .int (a6 + 1))]) [2, 3, 4, 5, 1, 0] rfl ?_
  exact hk_51 σ a1 a2 a4 (s1 + s0) (a6 + 1)
set_option maxRecDepth 100000 in
theorem t_M_own_J168 (hC : CX z ad x cX11_own RX11 10 (some .int)) (hR : x.2.2.1 = rmk 3 0 0) (k_51 : MS → Int32 → Int32 → Int32 → Int32 → Int32 → Option (Int32 × MS)) (hk_51 : ∀ (σ : MS) (a1 : Int32) (a2 : Int32) (a4 : Int32) (a5 : Int32) (a6 : Int32), AT z x 10 (wM z τ) rI (eqA ad) 0 0 0 0 ad 51 [(0, .ref 0), (1, .int a1), (2, .int a2), (4, .int a4), (5, .int a5), (6, .int a6)] [] σ (k_51 σ a1 a2 a4 a5 a6)) (σ : MS) (a1 : Int32) (a2 : Int32) (a4 : Int32) (a6 : Int32) (s0 : Int32) : AT z x 10 (wM z τ) rI (eqA ad) 0 0 0 0 ad 168 [(0, .ref 0), (1, .int a1), (2, .int a2), (4, .int a4), (6, .int a6)] [.int s0] σ (M_own_J168 k_51 σ a1 a2 a4 a6 s0) := by
  unfold M_own_J168
  refine at_iconst hC ic_1 dX11_own_168 ?_
  refine at_goto (tgt := 173) hC dX11_own_169 rfl ?_
  exact t_M_own_J173 hC hR k_51 hk_51 σ a1 a2 a4 a6 1 s0
set_option maxRecDepth 100000 in
theorem t_M_own_J172 (hC : CX z ad x cX11_own RX11 10 (some .int)) (hR : x.2.2.1 = rmk 3 0 0) (k_51 : MS → Int32 → Int32 → Int32 → Int32 → Int32 → Option (Int32 × MS)) (hk_51 : ∀ (σ : MS) (a1 : Int32) (a2 : Int32) (a4 : Int32) (a5 : Int32) (a6 : Int32), AT z x 10 (wM z τ) rI (eqA ad) 0 0 0 0 ad 51 [(0, .ref 0), (1, .int a1), (2, .int a2), (4, .int a4), (5, .int a5), (6, .int a6)] [] σ (k_51 σ a1 a2 a4 a5 a6)) (σ : MS) (a1 : Int32) (a2 : Int32) (a4 : Int32) (a6 : Int32) (s0 : Int32) : AT z x 10 (wM z τ) rI (eqA ad) 0 0 0 0 ad 172 [(0, .ref 0), (1, .int a1), (2, .int a2), (4, .int a4), (6, .int a6)] [.int s0] σ (M_own_J172 k_51 σ a1 a2 a4 a6 s0) := by
  unfold M_own_J172
  refine at_iconst hC ic_0 dX11_own_172 ?_
  exact t_M_own_J173 hC hR k_51 hk_51 σ a1 a2 a4 a6 0 s0
set_option maxRecDepth 100000 in
theorem t_M_own_J148 (hC : CX z ad x cX11_own RX11 10 (some .int)) (hR : x.2.2.1 = rmk 3 0 0) (k_51 : MS → Int32 → Int32 → Int32 → Int32 → Int32 → Option (Int32 × MS)) (hk_51 : ∀ (σ : MS) (a1 : Int32) (a2 : Int32) (a4 : Int32) (a5 : Int32) (a6 : Int32), AT z x 10 (wM z τ) rI (eqA ad) 0 0 0 0 ad 51 [(0, .ref 0), (1, .int a1), (2, .int a2), (4, .int a4), (5, .int a5), (6, .int a6)] [] σ (k_51 σ a1 a2 a4 a5 a6)) (σ : MS) (a1 : Int32) (a2 : Int32) (a4 : Int32) (a5 : Int32) (a6 : Int32) (a8 : Int32) (s0 : Int32) : AT z x 10 (wM z τ) rI (eqA ad) 0 0 0 0 ad 148 [(0, .ref 0), (1, .int a1), (2, .int a2), (4, .int a4), (5, .int a5), (6, .int a6), (8, .int a8)] [.int s0] σ (M_own_J148 k_51 σ a1 a2 a4 a5 a6 a8 s0) := by
  unfold M_own_J148
  refine at_istore (lv' := [(9, .int s0), (0, .ref 0), (1, .int a1), (2, .int a2), (4, .int a4), (5, .int a5), (6, .int a6), (8, .int a8)]) hC dX11_own_148 (by decide) rfl ?_
  refine at_iload (j := 5) hC rfl dX11_own_150 ?_
  refine at_iload (j := 7) hC rfl dX11_own_152 ?_
  refine at_if_ne (tgt := 168) hC dX11_own_154 rfl (fun _ => ?_) (fun _ => ?_)
  · refine at_drop (lv' := [(0, .ref 0), (1, .int a1), (2, .int a2), (4, .int a4), (6, .int a6)]) [1, 2, 3, 4, 6] rfl ?_
    exact t_M_own_J168 hC hR k_51 hk_51 σ a1 a2 a4 a6 a5
  · refine at_iload (j := 4) hC rfl dX11_own_157 ?_
    refine at_iconst hC ic_1 dX11_own_159 ?_
    refine at_icmp_ne (tgt := 172) hC dX11_own_160 rfl (fun _ => ?_) (fun _ => ?_)
    · refine at_drop (lv' := [(0, .ref 0), (1, .int a1), (2, .int a2), (4, .int a4), (6, .int a6)]) [1, 2, 3, 4, 6] rfl ?_
      exact t_M_own_J172 hC hR k_51 hk_51 σ a1 a2 a4 a6 a5
    · refine at_iload (j := 0) hC rfl dX11_own_163 ?_
      refine at_if_eq (tgt := 172) hC dX11_own_165 rfl (fun _ => ?_) (fun _ => ?_)
      · refine at_drop (lv' := [(0, .ref 0), (1, .int a1), (2, .int a2), (4, .int a4), (6, .int a6)]) [1, 2, 3, 4, 6] rfl ?_
        exact t_M_own_J172 hC hR k_51 hk_51 σ a1 a2 a4 a6 a5
      · refine at_drop (lv' := [(0, .ref 0), (1, .int a1), (2, .int a2), (4, .int a4), (6, .int a6)]) [1, 2, 3, 4, 6] rfl ?_
        exact t_M_own_J168 hC hR k_51 hk_51 σ a1 a2 a4 a6 a5
set_option maxRecDepth 100000 in
theorem t_M_own_J147 (hC : CX z ad x cX11_own RX11 10 (some .int)) (hR : x.2.2.1 = rmk 3 0 0) (k_51 : MS → Int32 → Int32 → Int32 → Int32 → Int32 → Option (Int32 × MS)) (hk_51 : ∀ (σ : MS) (a1 : Int32) (a2 : Int32) (a4 : Int32) (a5 : Int32) (a6 : Int32), AT z x 10 (wM z τ) rI (eqA ad) 0 0 0 0 ad 51 [(0, .ref 0), (1, .int a1), (2, .int a2), (4, .int a4), (5, .int a5), (6, .int a6)] [] σ (k_51 σ a1 a2 a4 a5 a6)) (σ : MS) (a1 : Int32) (a2 : Int32) (a4 : Int32) (a5 : Int32) (a6 : Int32) (a8 : Int32) : AT z x 10 (wM z τ) rI (eqA ad) 0 0 0 0 ad 147 [(0, .ref 0), (1, .int a1), (2, .int a2), (4, .int a4), (5, .int a5), (6, .int a6), (8, .int a8)] [] σ (M_own_J147 k_51 σ a1 a2 a4 a5 a6 a8) := by
  unfold M_own_J147
  refine at_iconst hC ic_0 dX11_own_147 ?_
  exact t_M_own_J148 hC hR k_51 hk_51 σ a1 a2 a4 a5 a6 a8 0
set_option maxRecDepth 100000 in
theorem t_M_own_J123 (hC : CX z ad x cX11_own RX11 10 (some .int)) (hR : x.2.2.1 = rmk 3 0 0) (k_51 : MS → Int32 → Int32 → Int32 → Int32 → Int32 → Option (Int32 × MS)) (hk_51 : ∀ (σ : MS) (a1 : Int32) (a2 : Int32) (a4 : Int32) (a5 : Int32) (a6 : Int32), AT z x 10 (wM z τ) rI (eqA ad) 0 0 0 0 ad 51 [(0, .ref 0), (1, .int a1), (2, .int a2), (4, .int a4), (5, .int a5), (6, .int a6)] [] σ (k_51 σ a1 a2 a4 a5 a6)) (σ : MS) (a1 : Int32) (a2 : Int32) (a4 : Int32) (a5 : Int32) (a6 : Int32) (a7 : Int32) (s0 : Int32) : AT z x 10 (wM z τ) rI (eqA ad) 0 0 0 0 ad 123 [(0, .ref 0), (1, .int a1), (2, .int a2), (4, .int a4), (5, .int a5), (6, .int a6), (7, .int a7)] [.int s0] σ (M_own_J123 k_51 σ a1 a2 a4 a5 a6 a7 s0) := by
  unfold M_own_J123
  refine at_istore (lv' := [(8, .int s0), (0, .ref 0), (1, .int a1), (2, .int a2), (4, .int a4), (5, .int a5), (6, .int a6), (7, .int a7)]) hC dX11_own_123 (by decide) rfl ?_
  refine at_iload (j := 7) hC rfl dX11_own_125 ?_
  refine at_iload_n (j := 3) hC rfl rfl dX11_own_127 ?_
  refine at_icmp_gt (tgt := 147) hC dX11_own_128 rfl (fun _ => ?_) (fun _ => ?_)
  · refine at_drop (lv' := [(0, .ref 0), (1, .int a1), (2, .int a2), (4, .int a4), (5, .int a5), (6, .int a6), (8, .int s0)]) [1, 2, 3, 4, 5, 6, 0] rfl ?_
    exact t_M_own_J147 hC hR k_51 hk_51 σ a1 a2 a4 a5 a6 s0
  · refine at_aload_n (j := 1) hC rfl rfl dX11_own_131 ?_
    refine gf_X11_114 hC dX11_own_132 ?_
    refine at_iload (j := 6) hC rfl dX11_own_135 ?_
    refine at_iald hC 33 dX11_own_137 cl_33 (fun v8 => ?_)
    refine at_iload (j := 7) hC rfl dX11_own_138 ?_
    refine at_icmp_le (tgt := 147) hC dX11_own_140 rfl (fun _ => ?_) (fun _ => ?_)
    · refine at_drop (lv' := [(0, .ref 0), (1, .int a1), (2, .int a2), (4, .int a4), (5, .int a5), (6, .int a6), (8, .int s0)]) [1, 2, 3, 4, 5, 6, 0] rfl ?_
      exact t_M_own_J147 hC hR k_51 hk_51 σ a1 a2 a4 a5 a6 s0
    · refine at_iconst hC ic_1 dX11_own_143 ?_
      refine at_goto (tgt := 148) hC dX11_own_144 rfl ?_
      refine at_drop (lv' := [(0, .ref 0), (1, .int a1), (2, .int a2), (4, .int a4), (5, .int a5), (6, .int a6), (8, .int s0)]) [1, 2, 3, 4, 5, 6, 0] rfl ?_
      exact t_M_own_J148 hC hR k_51 hk_51 σ a1 a2 a4 a5 a6 s0 1
set_option maxRecDepth 100000 in
theorem t_M_own_J122 (hC : CX z ad x cX11_own RX11 10 (some .int)) (hR : x.2.2.1 = rmk 3 0 0) (k_51 : MS → Int32 → Int32 → Int32 → Int32 → Int32 → Option (Int32 × MS)) (hk_51 : ∀ (σ : MS) (a1 : Int32) (a2 : Int32) (a4 : Int32) (a5 : Int32) (a6 : Int32), AT z x 10 (wM z τ) rI (eqA ad) 0 0 0 0 ad 51 [(0, .ref 0), (1, .int a1), (2, .int a2), (4, .int a4), (5, .int a5), (6, .int a6)] [] σ (k_51 σ a1 a2 a4 a5 a6)) (σ : MS) (a1 : Int32) (a2 : Int32) (a4 : Int32) (a5 : Int32) (a6 : Int32) (a7 : Int32) : AT z x 10 (wM z τ) rI (eqA ad) 0 0 0 0 ad 122 [(0, .ref 0), (1, .int a1), (2, .int a2), (4, .int a4), (5, .int a5), (6, .int a6), (7, .int a7)] [] σ (M_own_J122 k_51 σ a1 a2 a4 a5 a6 a7) := by
  unfold M_own_J122
  refine at_iconst hC ic_0 dX11_own_122 ?_
  exact t_M_own_J123 hC hR k_51 hk_51 σ a1 a2 a4 a5 a6 a7 0
set_option maxRecDepth 100000 in
theorem t_M_own_L51 (hC : CX z ad x cX11_own RX11 10 (some .int)) (hR : x.2.2.1 = rmk 3 0 0) (n : Nat) (σ : MS) (a1 : Int32) (a2 : Int32) (a4 : Int32) (a5 : Int32) (a6 : Int32) : AT z x 10 (wM z τ) rI (eqA ad) 0 0 0 0 ad 51 [(0, .ref 0), (1, .int a1), (2, .int a2), (4, .int a4), (5, .int a5), (6, .int a6)] [] σ (M_own_L51 n σ a1 a2 a4 a5 a6) := by
  revert σ a1 a2 a4 a5 a6
  show ∀ (σ : MS) (a1 : Int32) (a2 : Int32) (a4 : Int32) (a5 : Int32) (a6 : Int32), AT z x 10 (wM z τ) rI (eqA ad) 0 0 0 0 ad 51 [(0, .ref 0), (1, .int a1), (2, .int a2), (4, .int a4), (5, .int a5), (6, .int a6)] [] σ (M_own_L51_r n σ a1 a2 a4 a5 a6)
  induction n with
  | zero => intro σ a1 a2 a4 a5 a6; exact at_none
  | succ n hk_51 =>
    intro σ a1 a2 a4 a5 a6
    unfold M_own_L51_r
    refine at_iload (j := 5) hC rfl dX11_own_51 ?_
    refine at_aload_n (j := 0) hC rfl rfl dX11_own_53 ?_
    refine gf_X11_126 hC dX11_own_54 ?_
    refine at_icmp_ge (tgt := 182) hC dX11_own_57 rfl (fun _ => ?_) (fun _ => ?_)
    · refine at_iload (j := 4) hC rfl dX11_own_182 ?_
      exact at_iret (F := eqA ad) (ra := rI) hC dX11_own_184 rfl (Nat.le_refl 0) (Nat.le_refl 0) rfl
    · refine at_aload_n (j := 0) hC rfl rfl dX11_own_60 ?_
      refine gf_X11_15 hC dX11_own_61 ?_
      refine at_iload (j := 5) hC rfl dX11_own_64 ?_
      refine at_iald hC 2 dX11_own_66 cl_2 (fun v6 => ?_)
      refine at_bipush hC bi_100 dX11_own_67 ?_
      refine at_iload_n (j := 1) hC rfl rfl dX11_own_69 ?_
      refine at_imul hC dX11_own_70 ?_
      refine at_iadd hC dX11_own_71 ?_
      refine at_bipush hC bi_99 dX11_own_72 ?_
      refine at_iadd hC dX11_own_74 ?_
      refine at_istore (lv' := [(7, .int ((v6 + (100 * a1)) + 99)), (0, .ref 0), (1, .int a1), (2, .int a2), (4, .int a4), (5, .int a5), (6, .int a6)]) hC dX11_own_75 (by decide) rfl ?_
      refine at_aload_n (j := 1) hC rfl rfl dX11_own_77 ?_
      refine gf_X11_114 hC dX11_own_78 ?_
      refine at_iload (j := 6) hC rfl dX11_own_81 ?_
      refine at_iald hC 33 dX11_own_83 cl_33 (fun v7 => ?_)
      refine at_sipush hC si_10000 dX11_own_84 ?_
      refine at_icmp_eq (tgt := 122) hC dX11_own_87 rfl (fun _ => ?_) (fun _ => ?_)
      · refine at_drop (lv' := [(0, .ref 0), (1, .int a1), (2, .int a2), (4, .int a4), (5, .int a5), (6, .int a6), (7, .int ((v6 + (100 * a1)) + 99))]) [1, 2, 3, 4, 5, 6, 0] rfl ?_
        exact t_M_own_J122 hC hR (M_own_L51_r n) hk_51 σ a1 a2 a4 a5 a6 ((v6 + (100 * a1)) + 99)
      · refine at_aload_n (j := 1) hC rfl rfl dX11_own_90 ?_
        refine gf_X11_114 hC dX11_own_91 ?_
        refine at_iload (j := 6) hC rfl dX11_own_94 ?_
        refine at_iald hC 33 dX11_own_96 cl_33 (fun v9 => ?_)
        refine at_iload_n (j := 3) hC rfl rfl dX11_own_97 ?_
        refine at_icmp_gt (tgt := 122) hC dX11_own_98 rfl (fun _ => ?_) (fun _ => ?_)
        · refine at_drop (lv' := [(0, .ref 0), (1, .int a1), (2, .int a2), (4, .int a4), (5, .int a5), (6, .int a6), (7, .int ((v6 + (100 * a1)) + 99))]) [1, 2, 3, 4, 5, 6, 0] rfl ?_
          exact t_M_own_J122 hC hR (M_own_L51_r n) hk_51 σ a1 a2 a4 a5 a6 ((v6 + (100 * a1)) + 99)
        · refine at_aload_n (j := 1) hC rfl rfl dX11_own_101 ?_
          refine at_iload (j := 6) hC rfl dX11_own_102 ?_
          refine at_aload_n (j := 1) hC rfl rfl dX11_own_104 ?_
          refine gf_X11_114 hC dX11_own_105 ?_
          refine at_iload (j := 6) hC rfl dX11_own_108 ?_
          refine at_iald hC 33 dX11_own_110 cl_33 (fun v10 => ?_)
          refine at_callVpI hC hR lk_X11_206 (c_M_ageOf σ a6 v10) dX11_own_111 recX11 rfl rfl ⟨by decide, by decide⟩ (Nat.le_of_ble_eq_true rfl) ⟨Nat.le_refl 0, Nat.le_refl 0⟩ (fun r11 _ => ?_)
          refine at_iload_n (j := 2) hC rfl rfl dX11_own_114 ?_
          refine at_icmp_ne (tgt := 122) hC dX11_own_115 rfl (fun _ => ?_) (fun _ => ?_)
          · refine at_drop (lv' := [(0, .ref 0), (1, .int a1), (2, .int a2), (4, .int a4), (5, .int a5), (6, .int a6), (7, .int ((v6 + (100 * a1)) + 99))]) [1, 2, 3, 4, 5, 6, 0] rfl ?_
            exact t_M_own_J122 hC hR (M_own_L51_r n) hk_51 σ a1 a2 a4 a5 a6 ((v6 + (100 * a1)) + 99)
          · refine at_iconst hC ic_1 dX11_own_118 ?_
            refine at_goto (tgt := 123) hC dX11_own_119 rfl ?_
            refine at_drop (lv' := [(0, .ref 0), (1, .int a1), (2, .int a2), (4, .int a4), (5, .int a5), (6, .int a6), (7, .int ((v6 + (100 * a1)) + 99))]) [1, 2, 3, 4, 5, 6, 0] rfl ?_
            exact t_M_own_J123 hC hR (M_own_L51_r n) hk_51 σ a1 a2 a4 a5 a6 ((v6 + (100 * a1)) + 99) 1
set_option maxRecDepth 100000 in
theorem c_M_own (σ : MS) (p0 : Int32) (p1 : Int32) (p2 : Int32) (p3 : Int32) : Ct z (wM z τ) rI eqA yX11_own cX11_own 10 (some .int) 3 0 0 [.ref 0, .int p0, .int p1, .int p2, .int p3] σ (M_own σ p0 p1 p2 p3) := by
  refine Ct.of (by decide) (Nat.le_of_ble_eq_true rfl) (fun ad x hC hR _ => ?_)
  show AT z x 10 (wM z τ) rI (eqA ad) 0 0 0 0 ad 0 [(0, .ref 0), (1, .int p0), (2, .int p1), (3, .int p2), (4, .int p3)] [] σ (M_own σ p0 p1 p2 p3)
  unfold M_own
  refine at_iload_n (j := 1) hC rfl rfl dX11_own_0 ?_
  refine at_iconst hC ic_0 dX11_own_1 ?_
  refine at_bipush hC bi_99 dX11_own_2 ?_
  refine at_callSpI hC hR lk_X11_129 (c_M_in σ p0 0 99) dX11_own_4 rfl rfl ⟨by decide, by decide⟩ (Nat.le_of_ble_eq_true rfl) ⟨Nat.le_refl 0, Nat.le_refl 0⟩ (fun r1 _ => ?_)
  refine at_if_eq (tgt := 28) hC dX11_own_7 rfl (fun _ => ?_) (fun _ => ?_)
  · refine at_iconst hC ic_m1 dX11_own_28 ?_
    exact at_iret (F := eqA ad) (ra := rI) hC dX11_own_29 rfl (Nat.le_refl 0) (Nat.le_refl 0) rfl
  · refine at_aload_n (j := 0) hC rfl rfl dX11_own_10 ?_
    refine at_iload_n (j := 3) hC rfl rfl dX11_own_11 ?_
    refine at_callVpI hC hR lk_X11_212 (c_M_isBy σ p2) dX11_own_12 recX11 rfl rfl ⟨by decide, by decide⟩ (Nat.le_of_ble_eq_true rfl) ⟨Nat.le_refl 0, Nat.le_refl 0⟩ (fun r2 _ => ?_)
    refine at_if_eq (tgt := 28) hC dX11_own_15 rfl (fun _ => ?_) (fun _ => ?_)
    · refine at_iconst hC ic_m1 dX11_own_28 ?_
      exact at_iret (F := eqA ad) (ra := rI) hC dX11_own_29 rfl (Nat.le_refl 0) (Nat.le_refl 0) rfl
    · refine at_iload (j := 4) hC rfl dX11_own_18 ?_
      refine at_iconst hC ic_0 dX11_own_20 ?_
      refine at_iconst hC ic_1 dX11_own_21 ?_
      refine at_callSpI hC hR lk_X11_129 (c_M_in σ p3 0 1) dX11_own_22 rfl rfl ⟨by decide, by decide⟩ (Nat.le_of_ble_eq_true rfl) ⟨Nat.le_refl 0, Nat.le_refl 0⟩ (fun r3 _ => ?_)
      refine at_if_ne (tgt := 30) hC dX11_own_25 rfl (fun _ => ?_) (fun _ => ?_)
      · refine at_iload_n (j := 2) hC rfl rfl dX11_own_30 ?_
        refine at_callSpI hC hR lk_X11_177 (c_M_isDay σ p1) dX11_own_31 rfl rfl ⟨by decide, by decide⟩ (Nat.le_of_ble_eq_true rfl) ⟨Nat.le_refl 0, Nat.le_refl 0⟩ (fun r4 _ => ?_)
        refine at_if_ne (tgt := 40) hC dX11_own_34 rfl (fun _ => ?_) (fun _ => ?_)
        · refine at_aload_n (j := 0) hC rfl rfl dX11_own_40 ?_
          refine at_iload_n (j := 3) hC rfl rfl dX11_own_41 ?_
          refine at_callVU hC hR lk_X11_143 (c_M_looks σ p2) dX11_own_42 recX11 rfl rfl ⟨by decide, by decide⟩ (Nat.le_of_ble_eq_true rfl) ⟨Nat.le_refl 0, Nat.le_refl 0⟩ (fun r5 r5s _ => ?_)
          refine at_iconst hC ic_0 dX11_own_45 ?_
          refine at_istore (lv' := [(5, .int 0), (0, .ref 0), (1, .int p0), (2, .int p1), (3, .int p2), (4, .int p3)]) hC dX11_own_46 (by decide) rfl ?_
          refine at_iconst hC ic_0 dX11_own_48 ?_
          refine at_istore (lv' := [(6, .int 0), (5, .int 0), (0, .ref 0), (1, .int p0), (2, .int p1), (3, .int p2), (4, .int p3)]) hC dX11_own_49 (by decide) rfl ?_
          refine at_drop (lv' := [(0, .ref 0), (1, .int p0), (2, .int p1), (4, .int p3), (5, .int 0), (6, .int 0)]) [2, 3, 4, 6, 1, 0] rfl ?_
          exact t_M_own_L51 hC hR 100000 r5s p0 p1 p3 0 0
        · refine at_bipush hC bi_m2 dX11_own_37 ?_
          exact at_iret (F := eqA ad) (ra := rI) hC dX11_own_39 rfl (Nat.le_refl 0) (Nat.le_refl 0) rfl
      · refine at_iconst hC ic_m1 dX11_own_28 ?_
        exact at_iret (F := eqA ad) (ra := rI) hC dX11_own_29 rfl (Nat.le_refl 0) (Nat.le_refl 0) rfl
theorem dX11_aliveAt_0 : decode cX11_aliveAt 0 = .ok (.ldc_w 429, 3) := by decide +kernel
theorem dX11_aliveAt_3 : decode cX11_aliveAt 3 = .ok (.istore_n 3, 1) := by decide +kernel
theorem dX11_aliveAt_4 : decode cX11_aliveAt 4 = .ok (.iconst 0, 1) := by decide +kernel
theorem dX11_aliveAt_5 : decode cX11_aliveAt 5 = .ok (.istore 4, 2) := by decide +kernel
theorem dX11_aliveAt_7 : decode cX11_aliveAt 7 = .ok (.iload 4, 2) := by decide +kernel
theorem dX11_aliveAt_9 : decode cX11_aliveAt 9 = .ok (.iload_n 2, 1) := by decide +kernel
theorem dX11_aliveAt_10 : decode cX11_aliveAt 10 = .ok (.if_icmp .ge 43, 3) := by decide +kernel
theorem dX11_aliveAt_13 : decode cX11_aliveAt 13 = .ok (.iload_n 1, 1) := by decide +kernel
theorem dX11_aliveAt_14 : decode cX11_aliveAt 14 = .ok (.iload 4, 2) := by decide +kernel
theorem dX11_aliveAt_16 : decode cX11_aliveAt 16 = .ok (.iadd, 1) := by decide +kernel
theorem dX11_aliveAt_17 : decode cX11_aliveAt 17 = .ok (.bipush 99, 2) := by decide +kernel
theorem dX11_aliveAt_19 : decode cX11_aliveAt 19 = .ok (.if_icmp .le 7, 3) := by decide +kernel
theorem dX11_aliveAt_22 : decode cX11_aliveAt 22 = .ok (.iconst 0, 1) := by decide +kernel
theorem dX11_aliveAt_23 : decode cX11_aliveAt 23 = .ok (.goto 23, 3) := by decide +kernel
theorem dX11_aliveAt_26 : decode cX11_aliveAt 26 = .ok (.iload_n 3, 1) := by decide +kernel
theorem dX11_aliveAt_27 : decode cX11_aliveAt 27 = .ok (.iload_n 3, 1) := by decide +kernel
theorem dX11_aliveAt_28 : decode cX11_aliveAt 28 = .ok (.i2l, 1) := by decide +kernel
theorem dX11_aliveAt_29 : decode cX11_aliveAt 29 = .ok (.aload_n 0, 1) := by decide +kernel
theorem dX11_aliveAt_30 : decode cX11_aliveAt 30 = .ok (.getfield 85, 3) := by decide +kernel
theorem dX11_aliveAt_33 : decode cX11_aliveAt 33 = .ok (.iload_n 1, 1) := by decide +kernel
theorem dX11_aliveAt_34 : decode cX11_aliveAt 34 = .ok (.iload 4, 2) := by decide +kernel
theorem dX11_aliveAt_36 : decode cX11_aliveAt 36 = .ok (.iadd, 1) := by decide +kernel
theorem dX11_aliveAt_37 : decode cX11_aliveAt 37 = .ok (.iaload, 1) := by decide +kernel
theorem dX11_aliveAt_38 : decode cX11_aliveAt 38 = .ok (.i2l, 1) := by decide +kernel
theorem dX11_aliveAt_39 : decode cX11_aliveAt 39 = .ok (.lmul, 1) := by decide +kernel
theorem dX11_aliveAt_40 : decode cX11_aliveAt 40 = .ok (.ldc2_w 430, 3) := by decide +kernel
theorem dX11_aliveAt_43 : decode cX11_aliveAt 43 = .ok (.ldiv, 1) := by decide +kernel
theorem dX11_aliveAt_44 : decode cX11_aliveAt 44 = .ok (.l2i, 1) := by decide +kernel
theorem dX11_aliveAt_45 : decode cX11_aliveAt 45 = .ok (.isub, 1) := by decide +kernel
theorem dX11_aliveAt_46 : decode cX11_aliveAt 46 = .ok (.istore_n 3, 1) := by decide +kernel
theorem dX11_aliveAt_47 : decode cX11_aliveAt 47 = .ok (.iinc 4 1, 3) := by decide +kernel
theorem dX11_aliveAt_50 : decode cX11_aliveAt 50 = .ok (.goto (-43), 3) := by decide +kernel
theorem dX11_aliveAt_53 : decode cX11_aliveAt 53 = .ok (.iload_n 3, 1) := by decide +kernel
theorem dX11_aliveAt_54 : decode cX11_aliveAt 54 = .ok (.ireturn, 1) := by decide +kernel
set_option maxRecDepth 100000 in
theorem t_M_aliveAt_J46 (hC : CX z ad x cX11_aliveAt RX11 5 (some .int)) (hR : x.2.2.1 = rmk 1 0 0) (σ : MS) (k_7 : Int32 → Int32 → Int32 → Int32 → Option Int32) (hk_7 : ∀ (a1 : Int32) (a2 : Int32) (a3 : Int32) (a4 : Int32), AT z x 5 (wM z τ) rI (eqA ad) 0 0 0 0 ad 7 [(0, .ref 0), (1, .int a1), (2, .int a2), (3, .int a3), (4, .int a4)] [] σ ((k_7 a1 a2 a3 a4).map fun r => (r, σ))) (a1 : Int32) (a2 : Int32) (a4 : Int32) (s0 : Int32) : AT z x 5 (wM z τ) rI (eqA ad) 0 0 0 0 ad 46 [(0, .ref 0), (1, .int a1), (2, .int a2), (4, .int a4)] [.int s0] σ ((M_aliveAt_J46 k_7 σ a1 a2 a4 s0).map fun r => (r, σ)) := by
  unfold M_aliveAt_J46
  refine at_istore_n (lv' := [(3, .int s0), (0, .ref 0), (1, .int a1), (2, .int a2), (4, .int a4)]) hC rfl dX11_aliveAt_46 (by decide) rfl ?_
  refine at_iinc (j := 4) (v := a4 + 1) (lv' := [(4, .int (a4 + 1)), (3, .int s0), (0, .ref 0), (1, .int a1), (2, .int a2)]) hC dX11_aliveAt_47 rfl rfl (by decide) rfl ?_
  refine at_goto (tgt := 7) hC dX11_aliveAt_50 rfl ?_
  refine at_drop (lv' := [(0, .ref 0), (1, .int a1), (2, .int a2), (3, .int s0), (4, .int (a4 + 1))]) [2, 3, 4, 1, 0] rfl ?_
  exact hk_7 a1 a2 s0 (a4 + 1)
set_option maxRecDepth 100000 in
theorem t_M_aliveAt_L7 (hC : CX z ad x cX11_aliveAt RX11 5 (some .int)) (hR : x.2.2.1 = rmk 1 0 0) (σ : MS) (n : Nat) (a1 : Int32) (a2 : Int32) (a3 : Int32) (a4 : Int32) : AT z x 5 (wM z τ) rI (eqA ad) 0 0 0 0 ad 7 [(0, .ref 0), (1, .int a1), (2, .int a2), (3, .int a3), (4, .int a4)] [] σ ((M_aliveAt_L7 n σ a1 a2 a3 a4).map fun r => (r, σ)) := by
  revert a1 a2 a3 a4
  show ∀ (a1 : Int32) (a2 : Int32) (a3 : Int32) (a4 : Int32), AT z x 5 (wM z τ) rI (eqA ad) 0 0 0 0 ad 7 [(0, .ref 0), (1, .int a1), (2, .int a2), (3, .int a3), (4, .int a4)] [] σ ((M_aliveAt_L7_r σ n a1 a2 a3 a4).map fun r => (r, σ))
  induction n with
  | zero => intro a1 a2 a3 a4; exact ap_none
  | succ n hk_7 =>
    intro a1 a2 a3 a4
    unfold M_aliveAt_L7_r
    refine at_iload (j := 4) hC rfl dX11_aliveAt_7 ?_
    refine at_iload_n (j := 2) hC rfl rfl dX11_aliveAt_9 ?_
    refine ap_icmp_ge (tgt := 53) hC dX11_aliveAt_10 rfl (fun _ => ?_) (fun _ => ?_)
    · refine at_iload_n (j := 3) hC rfl rfl dX11_aliveAt_53 ?_
      exact at_iret (F := eqA ad) (ra := rI) hC dX11_aliveAt_54 rfl (Nat.le_refl 0) (Nat.le_refl 0) rfl
    · refine at_iload_n (j := 1) hC rfl rfl dX11_aliveAt_13 ?_
      refine at_iload (j := 4) hC rfl dX11_aliveAt_14 ?_
      refine at_iadd hC dX11_aliveAt_16 ?_
      refine at_bipush hC bi_99 dX11_aliveAt_17 ?_
      refine ap_icmp_le (tgt := 26) hC dX11_aliveAt_19 rfl (fun _ => ?_) (fun _ => ?_)
      · refine at_iload_n (j := 3) hC rfl rfl dX11_aliveAt_26 ?_
        refine at_iload_n (j := 3) hC rfl rfl dX11_aliveAt_27 ?_
        refine at_i2l hC dX11_aliveAt_28 ?_
        refine at_aload_n (j := 0) hC rfl rfl dX11_aliveAt_29 ?_
        refine gf_X11_85 hC dX11_aliveAt_30 ?_
        refine at_iload_n (j := 1) hC rfl rfl dX11_aliveAt_33 ?_
        refine at_iload (j := 4) hC rfl dX11_aliveAt_34 ?_
        refine at_iadd hC dX11_aliveAt_36 ?_
        refine ap_iald hC 25 dX11_aliveAt_37 cl_25 (fun v1 => ?_)
        refine at_i2l hC dX11_aliveAt_38 ?_
        refine at_lmul hC dX11_aliveAt_39 ?_
        refine at_ldc2 hC kl_X11_430 dX11_aliveAt_40 ?_
        refine at_ldiv hC (by decide) dX11_aliveAt_43 ?_
        refine at_l2i hC dX11_aliveAt_44 ?_
        refine at_isub hC dX11_aliveAt_45 ?_
        refine at_drop (lv' := [(0, .ref 0), (1, .int a1), (2, .int a2), (4, .int a4)]) [0, 1, 2, 4] rfl ?_
        exact t_M_aliveAt_J46 hC hR σ (M_aliveAt_L7_r σ n) hk_7 a1 a2 a4 (a3 - (((a3.toInt64 * v1.toInt64) / 1000).toInt32))
      · refine at_iconst hC ic_0 dX11_aliveAt_22 ?_
        refine at_goto (tgt := 46) hC dX11_aliveAt_23 rfl ?_
        refine at_drop (lv' := [(0, .ref 0), (1, .int a1), (2, .int a2), (4, .int a4)]) [0, 1, 2, 4] rfl ?_
        exact t_M_aliveAt_J46 hC hR σ (M_aliveAt_L7_r σ n) hk_7 a1 a2 a4 0
set_option maxRecDepth 100000 in
theorem c_M_aliveAt (σ : MS) (p0 : Int32) (p1 : Int32) : Ct z (wM z τ) rI eqA yX11_aliveAt cX11_aliveAt 5 (some .int) 1 0 0 [.ref 0, .int p0, .int p1] σ ((M_aliveAt σ p0 p1).map fun r => (r, σ)) := by
  refine Ct.of (by decide) (Nat.le_of_ble_eq_true rfl) (fun ad x hC hR _ => ?_)
  show AT z x 5 (wM z τ) rI (eqA ad) 0 0 0 0 ad 0 [(0, .ref 0), (1, .int p0), (2, .int p1)] [] σ ((M_aliveAt σ p0 p1).map fun r => (r, σ))
  unfold M_aliveAt
  refine at_ldcw hC kc_X11_429 dX11_aliveAt_0 ?_
  refine at_istore_n (lv' := [(3, .int 1000000), (0, .ref 0), (1, .int p0), (2, .int p1)]) hC rfl dX11_aliveAt_3 (by decide) rfl ?_
  refine at_iconst hC ic_0 dX11_aliveAt_4 ?_
  refine at_istore (lv' := [(4, .int 0), (3, .int 1000000), (0, .ref 0), (1, .int p0), (2, .int p1)]) hC dX11_aliveAt_5 (by decide) rfl ?_
  refine at_drop (lv' := [(0, .ref 0), (1, .int p0), (2, .int p1), (3, .int 1000000), (4, .int 0)]) [2, 3, 4, 1, 0] rfl ?_
  exact t_M_aliveAt_L7 hC hR σ 100000 p0 p1 1000000 0
theorem dX11_alive_0 : decode cX11_alive 0 = .ok (.iload_n 1, 1) := by decide +kernel
theorem dX11_alive_1 : decode cX11_alive 1 = .ok (.iconst 0, 1) := by decide +kernel
theorem dX11_alive_2 : decode cX11_alive 2 = .ok (.bipush 99, 2) := by decide +kernel
theorem dX11_alive_4 : decode cX11_alive 4 = .ok (.invokestatic 129, 3) := by decide +kernel
theorem dX11_alive_7 : decode cX11_alive 7 = .ok (.ifCond .ne 5, 3) := by decide +kernel
theorem dX11_alive_10 : decode cX11_alive 10 = .ok (.iconst (-1), 1) := by decide +kernel
theorem dX11_alive_11 : decode cX11_alive 11 = .ok (.ireturn, 1) := by decide +kernel
theorem dX11_alive_12 : decode cX11_alive 12 = .ok (.iload_n 2, 1) := by decide +kernel
theorem dX11_alive_13 : decode cX11_alive 13 = .ok (.iconst 0, 1) := by decide +kernel
theorem dX11_alive_14 : decode cX11_alive 14 = .ok (.bipush 100, 2) := by decide +kernel
theorem dX11_alive_16 : decode cX11_alive 16 = .ok (.invokestatic 129, 3) := by decide +kernel
theorem dX11_alive_19 : decode cX11_alive 19 = .ok (.ifCond .eq 12, 3) := by decide +kernel
theorem dX11_alive_22 : decode cX11_alive 22 = .ok (.aload_n 0, 1) := by decide +kernel
theorem dX11_alive_23 : decode cX11_alive 23 = .ok (.iload_n 1, 1) := by decide +kernel
theorem dX11_alive_24 : decode cX11_alive 24 = .ok (.iload_n 2, 1) := by decide +kernel
theorem dX11_alive_25 : decode cX11_alive 25 = .ok (.invokevirtual 432, 3) := by decide +kernel
theorem dX11_alive_28 : decode cX11_alive 28 = .ok (.goto 5, 3) := by decide +kernel
theorem dX11_alive_31 : decode cX11_alive 31 = .ok (.bipush (-2), 2) := by decide +kernel
theorem dX11_alive_33 : decode cX11_alive 33 = .ok (.ireturn, 1) := by decide +kernel
set_option maxRecDepth 100000 in
theorem c_M_alive (σ : MS) (p0 : Int32) (p1 : Int32) : Ct z (wM z τ) rI eqA yX11_alive cX11_alive 3 (some .int) 2 0 0 [.ref 0, .int p0, .int p1] σ ((M_alive σ p0 p1).map fun r => (r, σ)) := by
  refine Ct.of (by decide) (Nat.le_of_ble_eq_true rfl) (fun ad x hC hR _ => ?_)
  show AT z x 3 (wM z τ) rI (eqA ad) 0 0 0 0 ad 0 [(0, .ref 0), (1, .int p0), (2, .int p1)] [] σ ((M_alive σ p0 p1).map fun r => (r, σ))
  unfold M_alive
  refine at_iload_n (j := 1) hC rfl rfl dX11_alive_0 ?_
  refine at_iconst hC ic_0 dX11_alive_1 ?_
  refine at_bipush hC bi_99 dX11_alive_2 ?_
  refine ap_callSI hC hR lk_X11_129 (c_M_in σ p0 0 99) dX11_alive_4 rfl rfl ⟨by decide, by decide⟩ (Nat.le_of_ble_eq_true rfl) ⟨Nat.le_refl 0, Nat.le_refl 0⟩ (fun r1 _ => ?_)
  refine ap_if_ne (tgt := 12) hC dX11_alive_7 rfl (fun _ => ?_) (fun _ => ?_)
  · refine at_iload_n (j := 2) hC rfl rfl dX11_alive_12 ?_
    refine at_iconst hC ic_0 dX11_alive_13 ?_
    refine at_bipush hC bi_100 dX11_alive_14 ?_
    refine ap_callSI hC hR lk_X11_129 (c_M_in σ p1 0 100) dX11_alive_16 rfl rfl ⟨by decide, by decide⟩ (Nat.le_of_ble_eq_true rfl) ⟨Nat.le_refl 0, Nat.le_refl 0⟩ (fun r2 _ => ?_)
    refine ap_if_eq (tgt := 31) hC dX11_alive_19 rfl (fun _ => ?_) (fun _ => ?_)
    · refine at_bipush hC bi_m2 dX11_alive_31 ?_
      exact at_iret (F := eqA ad) (ra := rI) hC dX11_alive_33 rfl (Nat.le_refl 0) (Nat.le_refl 0) rfl
    · refine at_aload_n (j := 0) hC rfl rfl dX11_alive_22 ?_
      refine at_iload_n (j := 1) hC rfl rfl dX11_alive_23 ?_
      refine at_iload_n (j := 2) hC rfl rfl dX11_alive_24 ?_
      refine ap_callVI hC hR lk_X11_432 (c_M_aliveAt σ p0 p1) dX11_alive_25 recX11 rfl rfl ⟨by decide, by decide⟩ (Nat.le_of_ble_eq_true rfl) ⟨Nat.le_refl 0, Nat.le_refl 0⟩ (fun r3 _ => ?_)
      refine at_goto (tgt := 33) hC dX11_alive_28 rfl ?_
      exact at_iret (F := eqA ad) (ra := rI) hC dX11_alive_33 rfl (Nat.le_refl 0) (Nat.le_refl 0) rfl
  · refine at_iconst hC ic_m1 dX11_alive_10 ?_
    exact at_iret (F := eqA ad) (ra := rI) hC dX11_alive_11 rfl (Nat.le_refl 0) (Nat.le_refl 0) rfl
theorem dX11_expect_0 : decode cX11_expect 0 = .ok (.iload_n 1, 1) := by decide +kernel
theorem dX11_expect_1 : decode cX11_expect 1 = .ok (.iconst 0, 1) := by decide +kernel
theorem dX11_expect_2 : decode cX11_expect 2 = .ok (.bipush 99, 2) := by decide +kernel
theorem dX11_expect_4 : decode cX11_expect 4 = .ok (.invokestatic 129, 3) := by decide +kernel
theorem dX11_expect_7 : decode cX11_expect 7 = .ok (.ifCond .ne 5, 3) := by decide +kernel
theorem dX11_expect_10 : decode cX11_expect 10 = .ok (.iconst (-1), 1) := by decide +kernel
theorem dX11_expect_11 : decode cX11_expect 11 = .ok (.ireturn, 1) := by decide +kernel
theorem dX11_expect_12 : decode cX11_expect 12 = .ok (.iconst 0, 1) := by decide +kernel
theorem dX11_expect_13 : decode cX11_expect 13 = .ok (.istore_n 2, 1) := by decide +kernel
theorem dX11_expect_14 : decode cX11_expect 14 = .ok (.iconst 1, 1) := by decide +kernel
theorem dX11_expect_15 : decode cX11_expect 15 = .ok (.istore_n 3, 1) := by decide +kernel
theorem dX11_expect_16 : decode cX11_expect 16 = .ok (.iload_n 1, 1) := by decide +kernel
theorem dX11_expect_17 : decode cX11_expect 17 = .ok (.iload_n 3, 1) := by decide +kernel
theorem dX11_expect_18 : decode cX11_expect 18 = .ok (.iadd, 1) := by decide +kernel
theorem dX11_expect_19 : decode cX11_expect 19 = .ok (.bipush 99, 2) := by decide +kernel
theorem dX11_expect_21 : decode cX11_expect 21 = .ok (.if_icmp .gt 18, 3) := by decide +kernel
theorem dX11_expect_24 : decode cX11_expect 24 = .ok (.iload_n 2, 1) := by decide +kernel
theorem dX11_expect_25 : decode cX11_expect 25 = .ok (.aload_n 0, 1) := by decide +kernel
theorem dX11_expect_26 : decode cX11_expect 26 = .ok (.iload_n 1, 1) := by decide +kernel
theorem dX11_expect_27 : decode cX11_expect 27 = .ok (.iload_n 3, 1) := by decide +kernel
theorem dX11_expect_28 : decode cX11_expect 28 = .ok (.invokevirtual 432, 3) := by decide +kernel
theorem dX11_expect_31 : decode cX11_expect 31 = .ok (.iadd, 1) := by decide +kernel
theorem dX11_expect_32 : decode cX11_expect 32 = .ok (.istore_n 2, 1) := by decide +kernel
theorem dX11_expect_33 : decode cX11_expect 33 = .ok (.iinc 3 1, 3) := by decide +kernel
theorem dX11_expect_36 : decode cX11_expect 36 = .ok (.goto (-20), 3) := by decide +kernel
theorem dX11_expect_39 : decode cX11_expect 39 = .ok (.iload_n 2, 1) := by decide +kernel
theorem dX11_expect_40 : decode cX11_expect 40 = .ok (.ireturn, 1) := by decide +kernel
set_option maxRecDepth 100000 in
theorem t_M_expect_L16 (hC : CX z ad x cX11_expect RX11 4 (some .int)) (hR : x.2.2.1 = rmk 2 0 0) (σ : MS) (n : Nat) (a1 : Int32) (a2 : Int32) (a3 : Int32) : AT z x 4 (wM z τ) rI (eqA ad) 0 0 0 0 ad 16 [(0, .ref 0), (1, .int a1), (2, .int a2), (3, .int a3)] [] σ ((M_expect_L16 n σ a1 a2 a3).map fun r => (r, σ)) := by
  revert a1 a2 a3
  show ∀ (a1 : Int32) (a2 : Int32) (a3 : Int32), AT z x 4 (wM z τ) rI (eqA ad) 0 0 0 0 ad 16 [(0, .ref 0), (1, .int a1), (2, .int a2), (3, .int a3)] [] σ ((M_expect_L16_r σ n a1 a2 a3).map fun r => (r, σ))
  induction n with
  | zero => intro a1 a2 a3; exact ap_none
  | succ n hk_16 =>
    intro a1 a2 a3
    unfold M_expect_L16_r
    refine at_iload_n (j := 1) hC rfl rfl dX11_expect_16 ?_
    refine at_iload_n (j := 3) hC rfl rfl dX11_expect_17 ?_
    refine at_iadd hC dX11_expect_18 ?_
    refine at_bipush hC bi_99 dX11_expect_19 ?_
    refine ap_icmp_gt (tgt := 39) hC dX11_expect_21 rfl (fun _ => ?_) (fun _ => ?_)
    · refine at_iload_n (j := 2) hC rfl rfl dX11_expect_39 ?_
      exact at_iret (F := eqA ad) (ra := rI) hC dX11_expect_40 rfl (Nat.le_refl 0) (Nat.le_refl 0) rfl
    · refine at_iload_n (j := 2) hC rfl rfl dX11_expect_24 ?_
      refine at_aload_n (j := 0) hC rfl rfl dX11_expect_25 ?_
      refine at_iload_n (j := 1) hC rfl rfl dX11_expect_26 ?_
      refine at_iload_n (j := 3) hC rfl rfl dX11_expect_27 ?_
      refine ap_callVI hC hR lk_X11_432 (c_M_aliveAt σ a1 a3) dX11_expect_28 recX11 rfl rfl ⟨by decide, by decide⟩ (Nat.le_of_ble_eq_true rfl) ⟨Nat.le_refl 0, Nat.le_refl 0⟩ (fun r2 _ => ?_)
      refine at_iadd hC dX11_expect_31 ?_
      refine at_istore_n (lv' := [(2, .int (a2 + r2)), (0, .ref 0), (1, .int a1), (3, .int a3)]) hC rfl dX11_expect_32 (by decide) rfl ?_
      refine at_iinc (j := 3) (v := a3 + 1) (lv' := [(3, .int (a3 + 1)), (2, .int (a2 + r2)), (0, .ref 0), (1, .int a1)]) hC dX11_expect_33 rfl rfl (by decide) rfl ?_
      refine at_goto (tgt := 16) hC dX11_expect_36 rfl ?_
      refine at_drop (lv' := [(0, .ref 0), (1, .int a1), (2, .int (a2 + r2)), (3, .int (a3 + 1))]) [2, 3, 1, 0] rfl ?_
      exact hk_16 a1 (a2 + r2) (a3 + 1)
set_option maxRecDepth 100000 in
theorem c_M_expect (σ : MS) (p0 : Int32) : Ct z (wM z τ) rI eqA yX11_expect cX11_expect 4 (some .int) 2 0 0 [.ref 0, .int p0] σ ((M_expect σ p0).map fun r => (r, σ)) := by
  refine Ct.of (by decide) (Nat.le_of_ble_eq_true rfl) (fun ad x hC hR _ => ?_)
  show AT z x 4 (wM z τ) rI (eqA ad) 0 0 0 0 ad 0 [(0, .ref 0), (1, .int p0)] [] σ ((M_expect σ p0).map fun r => (r, σ))
  unfold M_expect
  refine at_iload_n (j := 1) hC rfl rfl dX11_expect_0 ?_
  refine at_iconst hC ic_0 dX11_expect_1 ?_
  refine at_bipush hC bi_99 dX11_expect_2 ?_
  refine ap_callSI hC hR lk_X11_129 (c_M_in σ p0 0 99) dX11_expect_4 rfl rfl ⟨by decide, by decide⟩ (Nat.le_of_ble_eq_true rfl) ⟨Nat.le_refl 0, Nat.le_refl 0⟩ (fun r1 _ => ?_)
  refine ap_if_ne (tgt := 12) hC dX11_expect_7 rfl (fun _ => ?_) (fun _ => ?_)
  · refine at_iconst hC ic_0 dX11_expect_12 ?_
    refine at_istore_n (lv' := [(2, .int 0), (0, .ref 0), (1, .int p0)]) hC rfl dX11_expect_13 (by decide) rfl ?_
    refine at_iconst hC ic_1 dX11_expect_14 ?_
    refine at_istore_n (lv' := [(3, .int 1), (2, .int 0), (0, .ref 0), (1, .int p0)]) hC rfl dX11_expect_15 (by decide) rfl ?_
    refine at_drop (lv' := [(0, .ref 0), (1, .int p0), (2, .int 0), (3, .int 1)]) [2, 3, 1, 0] rfl ?_
    exact t_M_expect_L16 hC hR σ 100000 p0 0 1
  · refine at_iconst hC ic_m1 dX11_expect_10 ?_
    exact at_iret (F := eqA ad) (ra := rI) hC dX11_expect_11 rfl (Nat.le_refl 0) (Nat.le_refl 0) rfl
theorem dX11_interest_0 : decode cX11_interest 0 = .ok (.iload_n 1, 1) := by decide +kernel
theorem dX11_interest_1 : decode cX11_interest 1 = .ok (.iconst 0, 1) := by decide +kernel
theorem dX11_interest_2 : decode cX11_interest 2 = .ok (.bipush 20, 2) := by decide +kernel
theorem dX11_interest_4 : decode cX11_interest 4 = .ok (.invokestatic 129, 3) := by decide +kernel
theorem dX11_interest_7 : decode cX11_interest 7 = .ok (.ifCond .ne 6, 3) := by decide +kernel
theorem dX11_interest_10 : decode cX11_interest 10 = .ok (.bipush (-2), 2) := by decide +kernel
theorem dX11_interest_12 : decode cX11_interest 12 = .ok (.ireturn, 1) := by decide +kernel
theorem dX11_interest_13 : decode cX11_interest 13 = .ok (.aload_n 0, 1) := by decide +kernel
theorem dX11_interest_14 : decode cX11_interest 14 = .ok (.getfield 88, 3) := by decide +kernel
theorem dX11_interest_17 : decode cX11_interest 17 = .ok (.istore_n 2, 1) := by decide +kernel
theorem dX11_interest_18 : decode cX11_interest 18 = .ok (.aload_n 0, 1) := by decide +kernel
theorem dX11_interest_19 : decode cX11_interest 19 = .ok (.iload_n 1, 1) := by decide +kernel
theorem dX11_interest_20 : decode cX11_interest 20 = .ok (.putfield 88, 3) := by decide +kernel
theorem dX11_interest_23 : decode cX11_interest 23 = .ok (.iload_n 2, 1) := by decide +kernel
theorem dX11_interest_24 : decode cX11_interest 24 = .ok (.ireturn, 1) := by decide +kernel
set_option maxRecDepth 100000 in
theorem c_M_interest (σ : MS) (p0 : Int32) : Ct z (wM z τ) rI eqA yX11_interest cX11_interest 3 (some .int) 2 0 0 [.ref 0, .int p0] σ (M_interest σ p0) := by
  refine Ct.of (by decide) (Nat.le_of_ble_eq_true rfl) (fun ad x hC hR _ => ?_)
  show AT z x 3 (wM z τ) rI (eqA ad) 0 0 0 0 ad 0 [(0, .ref 0), (1, .int p0)] [] σ (M_interest σ p0)
  unfold M_interest
  refine at_iload_n (j := 1) hC rfl rfl dX11_interest_0 ?_
  refine at_iconst hC ic_0 dX11_interest_1 ?_
  refine at_bipush hC bi_20 dX11_interest_2 ?_
  refine at_callSpI hC hR lk_X11_129 (c_M_in σ p0 0 20) dX11_interest_4 rfl rfl ⟨by decide, by decide⟩ (Nat.le_of_ble_eq_true rfl) ⟨Nat.le_refl 0, Nat.le_refl 0⟩ (fun r1 _ => ?_)
  refine at_if_ne (tgt := 13) hC dX11_interest_7 rfl (fun _ => ?_) (fun _ => ?_)
  · refine at_aload_n (j := 0) hC rfl rfl dX11_interest_13 ?_
    refine gf_X11_88 hC dX11_interest_14 ?_
    refine at_istore_n (lv' := [(2, .int (σ.1 34)), (0, .ref 0), (1, .int p0)]) hC rfl dX11_interest_17 (by decide) rfl ?_
    refine at_aload_n (j := 1) hC rfl rfl dX11_interest_18 ?_
    refine at_iload_n (j := 2) hC rfl rfl dX11_interest_19 ?_
    refine pf_X11_88 hC dX11_interest_20 ?_
    refine at_iload_n (j := 0) hC rfl rfl dX11_interest_23 ?_
    exact at_iret (F := eqA ad) (ra := rI) hC dX11_interest_24 rfl (Nat.le_refl 0) (Nat.le_refl 0) rfl
  · refine at_bipush hC bi_m2 dX11_interest_10 ?_
    exact at_iret (F := eqA ad) (ra := rI) hC dX11_interest_12 rfl (Nat.le_refl 0) (Nat.le_refl 0) rfl
theorem dX11_worthOf_0 : decode cX11_worthOf 0 = .ok (.lconst 0, 1) := by decide +kernel
theorem dX11_worthOf_1 : decode cX11_worthOf 1 = .ok (.lstore 4, 2) := by decide +kernel
theorem dX11_worthOf_3 : decode cX11_worthOf 3 = .ok (.ldc2_w 435, 3) := by decide +kernel
theorem dX11_worthOf_6 : decode cX11_worthOf 6 = .ok (.lstore 6, 2) := by decide +kernel
theorem dX11_worthOf_8 : decode cX11_worthOf 8 = .ok (.ldc2_w 435, 3) := by decide +kernel
theorem dX11_worthOf_11 : decode cX11_worthOf 11 = .ok (.lstore 8, 2) := by decide +kernel
theorem dX11_worthOf_13 : decode cX11_worthOf 13 = .ok (.iconst 1, 1) := by decide +kernel
theorem dX11_worthOf_14 : decode cX11_worthOf 14 = .ok (.istore 10, 2) := by decide +kernel
theorem dX11_worthOf_16 : decode cX11_worthOf 16 = .ok (.iload_n 3, 1) := by decide +kernel
theorem dX11_worthOf_17 : decode cX11_worthOf 17 = .ok (.iload 10, 2) := by decide +kernel
theorem dX11_worthOf_19 : decode cX11_worthOf 19 = .ok (.iadd, 1) := by decide +kernel
theorem dX11_worthOf_20 : decode cX11_worthOf 20 = .ok (.bipush 99, 2) := by decide +kernel
theorem dX11_worthOf_22 : decode cX11_worthOf 22 = .ok (.if_icmp .gt 62, 3) := by decide +kernel
theorem dX11_worthOf_25 : decode cX11_worthOf 25 = .ok (.lload 6, 2) := by decide +kernel
theorem dX11_worthOf_27 : decode cX11_worthOf 27 = .ok (.lload 6, 2) := by decide +kernel
theorem dX11_worthOf_29 : decode cX11_worthOf 29 = .ok (.aload_n 0, 1) := by decide +kernel
theorem dX11_worthOf_30 : decode cX11_worthOf 30 = .ok (.getfield 85, 3) := by decide +kernel
theorem dX11_worthOf_33 : decode cX11_worthOf 33 = .ok (.iload_n 3, 1) := by decide +kernel
theorem dX11_worthOf_34 : decode cX11_worthOf 34 = .ok (.iload 10, 2) := by decide +kernel
theorem dX11_worthOf_36 : decode cX11_worthOf 36 = .ok (.iadd, 1) := by decide +kernel
theorem dX11_worthOf_37 : decode cX11_worthOf 37 = .ok (.iconst 1, 1) := by decide +kernel
theorem dX11_worthOf_38 : decode cX11_worthOf 38 = .ok (.isub, 1) := by decide +kernel
theorem dX11_worthOf_39 : decode cX11_worthOf 39 = .ok (.iaload, 1) := by decide +kernel
theorem dX11_worthOf_40 : decode cX11_worthOf 40 = .ok (.i2l, 1) := by decide +kernel
theorem dX11_worthOf_41 : decode cX11_worthOf 41 = .ok (.lmul, 1) := by decide +kernel
theorem dX11_worthOf_42 : decode cX11_worthOf 42 = .ok (.ldc2_w 430, 3) := by decide +kernel
theorem dX11_worthOf_45 : decode cX11_worthOf 45 = .ok (.ldiv, 1) := by decide +kernel
theorem dX11_worthOf_46 : decode cX11_worthOf 46 = .ok (.lsub, 1) := by decide +kernel
theorem dX11_worthOf_47 : decode cX11_worthOf 47 = .ok (.lstore 6, 2) := by decide +kernel
theorem dX11_worthOf_49 : decode cX11_worthOf 49 = .ok (.lload 8, 2) := by decide +kernel
theorem dX11_worthOf_51 : decode cX11_worthOf 51 = .ok (.ldc2_w 375, 3) := by decide +kernel
theorem dX11_worthOf_54 : decode cX11_worthOf 54 = .ok (.lmul, 1) := by decide +kernel
theorem dX11_worthOf_55 : decode cX11_worthOf 55 = .ok (.bipush 100, 2) := by decide +kernel
theorem dX11_worthOf_57 : decode cX11_worthOf 57 = .ok (.aload_n 0, 1) := by decide +kernel
theorem dX11_worthOf_58 : decode cX11_worthOf 58 = .ok (.getfield 88, 3) := by decide +kernel
theorem dX11_worthOf_61 : decode cX11_worthOf 61 = .ok (.iadd, 1) := by decide +kernel
theorem dX11_worthOf_62 : decode cX11_worthOf 62 = .ok (.i2l, 1) := by decide +kernel
theorem dX11_worthOf_63 : decode cX11_worthOf 63 = .ok (.ldiv, 1) := by decide +kernel
theorem dX11_worthOf_64 : decode cX11_worthOf 64 = .ok (.lstore 8, 2) := by decide +kernel
theorem dX11_worthOf_66 : decode cX11_worthOf 66 = .ok (.lload 4, 2) := by decide +kernel
theorem dX11_worthOf_68 : decode cX11_worthOf 68 = .ok (.lload_n 1, 1) := by decide +kernel
theorem dX11_worthOf_69 : decode cX11_worthOf 69 = .ok (.lload 6, 2) := by decide +kernel
theorem dX11_worthOf_71 : decode cX11_worthOf 71 = .ok (.lmul, 1) := by decide +kernel
theorem dX11_worthOf_72 : decode cX11_worthOf 72 = .ok (.lload 8, 2) := by decide +kernel
theorem dX11_worthOf_74 : decode cX11_worthOf 74 = .ok (.lmul, 1) := by decide +kernel
theorem dX11_worthOf_75 : decode cX11_worthOf 75 = .ok (.ladd, 1) := by decide +kernel
theorem dX11_worthOf_76 : decode cX11_worthOf 76 = .ok (.lstore 4, 2) := by decide +kernel
theorem dX11_worthOf_78 : decode cX11_worthOf 78 = .ok (.iinc 10 1, 3) := by decide +kernel
theorem dX11_worthOf_81 : decode cX11_worthOf 81 = .ok (.goto (-65), 3) := by decide +kernel
theorem dX11_worthOf_84 : decode cX11_worthOf 84 = .ok (.lload 4, 2) := by decide +kernel
theorem dX11_worthOf_86 : decode cX11_worthOf 86 = .ok (.ldc2_w 377, 3) := by decide +kernel
theorem dX11_worthOf_89 : decode cX11_worthOf 89 = .ok (.ldiv, 1) := by decide +kernel
theorem dX11_worthOf_90 : decode cX11_worthOf 90 = .ok (.lreturn, 1) := by decide +kernel
set_option maxRecDepth 100000 in
theorem t_M_worthOf_L16 (hC : CX z ad x cX11_worthOf RX11 11 (some .long)) (hR : x.2.2.1 = rmk 1 0 0) (σ : MS) (n : Nat) (a1 : Int64) (a3 : Int32) (a4 : Int64) (a6 : Int64) (a8 : Int64) (a10 : Int32) : AT z x 11 (wM z τ) rJ (eqA ad) 0 0 0 0 ad 16 [(0, .ref 0), (1, .long a1), (3, .int a3), (4, .long a4), (6, .long a6), (8, .long a8), (10, .int a10)] [] σ ((M_worthOf_L16 n σ a1 a3 a4 a6 a8 a10).map fun r => (r, σ)) := by
  revert a1 a3 a4 a6 a8 a10
  show ∀ (a1 : Int64) (a3 : Int32) (a4 : Int64) (a6 : Int64) (a8 : Int64) (a10 : Int32), AT z x 11 (wM z τ) rJ (eqA ad) 0 0 0 0 ad 16 [(0, .ref 0), (1, .long a1), (3, .int a3), (4, .long a4), (6, .long a6), (8, .long a8), (10, .int a10)] [] σ ((M_worthOf_L16_r σ n a1 a3 a4 a6 a8 a10).map fun r => (r, σ))
  induction n with
  | zero => intro a1 a3 a4 a6 a8 a10; exact ap_none
  | succ n hk_16 =>
    intro a1 a3 a4 a6 a8 a10
    unfold M_worthOf_L16_r
    refine at_iload_n (j := 2) hC rfl rfl dX11_worthOf_16 ?_
    refine at_iload (j := 6) hC rfl dX11_worthOf_17 ?_
    refine at_iadd hC dX11_worthOf_19 ?_
    refine at_bipush hC bi_99 dX11_worthOf_20 ?_
    refine ap_icmp_gt (tgt := 84) hC dX11_worthOf_22 rfl (fun _ => ?_) (fun _ => ?_)
    · refine at_lload (j := 3) hC rfl dX11_worthOf_84 ?_
      refine at_ldc2 hC kl_X11_377 dX11_worthOf_86 ?_
      refine at_ldiv hC (by decide) dX11_worthOf_89 ?_
      exact at_lret (F := eqA ad) (ra := rJ) hC dX11_worthOf_90 rfl (Nat.le_refl 0) (Nat.le_refl 0) rfl
    · refine at_lload (j := 4) hC rfl dX11_worthOf_25 ?_
      refine at_lload (j := 4) hC rfl dX11_worthOf_27 ?_
      refine at_aload_n (j := 0) hC rfl rfl dX11_worthOf_29 ?_
      refine gf_X11_85 hC dX11_worthOf_30 ?_
      refine at_iload_n (j := 2) hC rfl rfl dX11_worthOf_33 ?_
      refine at_iload (j := 6) hC rfl dX11_worthOf_34 ?_
      refine at_iadd hC dX11_worthOf_36 ?_
      refine at_iconst hC ic_1 dX11_worthOf_37 ?_
      refine at_isub hC dX11_worthOf_38 ?_
      refine ap_iald hC 25 dX11_worthOf_39 cl_25 (fun v1 => ?_)
      refine at_i2l hC dX11_worthOf_40 ?_
      refine at_lmul hC dX11_worthOf_41 ?_
      refine at_ldc2 hC kl_X11_430 dX11_worthOf_42 ?_
      refine at_ldiv hC (by decide) dX11_worthOf_45 ?_
      refine at_lsub hC dX11_worthOf_46 ?_
      refine at_lstore (lv' := [(6, .long (a6 - ((a6 * v1.toInt64) / 1000))), (0, .ref 0), (1, .long a1), (3, .int a3), (4, .long a4), (8, .long a8), (10, .int a10)]) hC dX11_worthOf_47 (by decide) rfl ?_
      refine at_lload (j := 5) hC rfl dX11_worthOf_49 ?_
      refine at_ldc2 hC kl_X11_375 dX11_worthOf_51 ?_
      refine at_lmul hC dX11_worthOf_54 ?_
      refine at_bipush hC bi_100 dX11_worthOf_55 ?_
      refine at_aload_n (j := 1) hC rfl rfl dX11_worthOf_57 ?_
      refine gf_X11_88 hC dX11_worthOf_58 ?_
      refine at_iadd hC dX11_worthOf_61 ?_
      refine at_i2l hC dX11_worthOf_62 ?_
      refine ap_nzl (fun hne => ?_)
      refine at_ldiv hC hne dX11_worthOf_63 ?_
      refine at_lstore (lv' := [(8, .long ((a8 * 100) / ((100 + (σ.1 34)).toInt64))), (6, .long (a6 - ((a6 * v1.toInt64) / 1000))), (0, .ref 0), (1, .long a1), (3, .int a3), (4, .long a4), (10, .int a10)]) hC dX11_worthOf_64 (by decide) rfl ?_
      refine at_lload (j := 5) hC rfl dX11_worthOf_66 ?_
      refine at_lload_n (j := 3) hC rfl rfl dX11_worthOf_68 ?_
      refine at_lload (j := 1) hC rfl dX11_worthOf_69 ?_
      refine at_lmul hC dX11_worthOf_71 ?_
      refine at_lload (j := 0) hC rfl dX11_worthOf_72 ?_
      refine at_lmul hC dX11_worthOf_74 ?_
      refine at_ladd hC dX11_worthOf_75 ?_
      refine at_lstore (lv' := [(4, .long (a4 + ((a1 * (a6 - ((a6 * v1.toInt64) / 1000))) * ((a8 * 100) / ((100 + (σ.1 34)).toInt64))))), (8, .long ((a8 * 100) / ((100 + (σ.1 34)).toInt64))), (6, .long (a6 - ((a6 * v1.toInt64) / 1000))), (0, .ref 0), (1, .long a1), (3, .int a3), (10, .int a10)]) hC dX11_worthOf_76 (by decide) rfl ?_
      refine at_iinc (j := 6) (v := a10 + 1) (lv' := [(10, .int (a10 + 1)), (4, .long (a4 + ((a1 * (a6 - ((a6 * v1.toInt64) / 1000))) * ((a8 * 100) / ((100 + (σ.1 34)).toInt64))))), (8, .long ((a8 * 100) / ((100 + (σ.1 34)).toInt64))), (6, .long (a6 - ((a6 * v1.toInt64) / 1000))), (0, .ref 0), (1, .long a1), (3, .int a3)]) hC dX11_worthOf_78 rfl rfl (by decide) rfl ?_
      refine at_goto (tgt := 16) hC dX11_worthOf_81 rfl ?_
      refine at_drop (lv' := [(0, .ref 0), (1, .long a1), (3, .int a3), (4, .long (a4 + ((a1 * (a6 - ((a6 * v1.toInt64) / 1000))) * ((a8 * 100) / ((100 + (σ.1 34)).toInt64))))), (6, .long (a6 - ((a6 * v1.toInt64) / 1000))), (8, .long ((a8 * 100) / ((100 + (σ.1 34)).toInt64))), (10, .int (a10 + 1))]) [4, 5, 6, 1, 3, 2, 0] rfl ?_
      exact hk_16 a1 a3 (a4 + ((a1 * (a6 - ((a6 * v1.toInt64) / 1000))) * ((a8 * 100) / ((100 + (σ.1 34)).toInt64)))) (a6 - ((a6 * v1.toInt64) / 1000)) ((a8 * 100) / ((100 + (σ.1 34)).toInt64)) (a10 + 1)
set_option maxRecDepth 100000 in
theorem c_M_worthOf (σ : MS) (p0 : Int64) (p1 : Int32) : Ct z (wM z τ) rJ eqA yX11_worthOf cX11_worthOf 11 (some .long) 1 0 0 [.ref 0, .long p0, .int p1] σ ((M_worthOf σ p0 p1).map fun r => (r, σ)) := by
  refine Ct.of (by decide) (Nat.le_of_ble_eq_true rfl) (fun ad x hC hR _ => ?_)
  show AT z x 11 (wM z τ) rJ (eqA ad) 0 0 0 0 ad 0 [(0, .ref 0), (1, .long p0), (3, .int p1)] [] σ ((M_worthOf σ p0 p1).map fun r => (r, σ))
  unfold M_worthOf
  refine at_lconst hC lc_0 dX11_worthOf_0 ?_
  refine at_lstore (lv' := [(4, .long 0), (0, .ref 0), (1, .long p0), (3, .int p1)]) hC dX11_worthOf_1 (by decide) rfl ?_
  refine at_ldc2 hC kl_X11_435 dX11_worthOf_3 ?_
  refine at_lstore (lv' := [(6, .long 1000000), (4, .long 0), (0, .ref 0), (1, .long p0), (3, .int p1)]) hC dX11_worthOf_6 (by decide) rfl ?_
  refine at_ldc2 hC kl_X11_435 dX11_worthOf_8 ?_
  refine at_lstore (lv' := [(8, .long 1000000), (6, .long 1000000), (4, .long 0), (0, .ref 0), (1, .long p0), (3, .int p1)]) hC dX11_worthOf_11 (by decide) rfl ?_
  refine at_iconst hC ic_1 dX11_worthOf_13 ?_
  refine at_istore (lv' := [(10, .int 1), (8, .long 1000000), (6, .long 1000000), (4, .long 0), (0, .ref 0), (1, .long p0), (3, .int p1)]) hC dX11_worthOf_14 (by decide) rfl ?_
  refine at_drop (lv' := [(0, .ref 0), (1, .long p0), (3, .int p1), (4, .long 0), (6, .long 1000000), (8, .long 1000000), (10, .int 1)]) [4, 5, 6, 3, 2, 1, 0] rfl ?_
  exact t_M_worthOf_L16 hC hR σ 100000 p0 p1 0 1000000 1000000 1
theorem dX11_worth_0 : decode cX11_worth 0 = .ok (.iload_n 1, 1) := by decide +kernel
theorem dX11_worth_1 : decode cX11_worth 1 = .ok (.iconst 0, 1) := by decide +kernel
theorem dX11_worth_2 : decode cX11_worth 2 = .ok (.sipush 9999, 3) := by decide +kernel
theorem dX11_worth_5 : decode cX11_worth 5 = .ok (.invokestatic 129, 3) := by decide +kernel
theorem dX11_worth_8 : decode cX11_worth 8 = .ok (.ifCond .eq 23, 3) := by decide +kernel
theorem dX11_worth_11 : decode cX11_worth 11 = .ok (.iload_n 2, 1) := by decide +kernel
theorem dX11_worth_12 : decode cX11_worth 12 = .ok (.iconst 0, 1) := by decide +kernel
theorem dX11_worth_13 : decode cX11_worth 13 = .ok (.bipush 99, 2) := by decide +kernel
theorem dX11_worth_15 : decode cX11_worth 15 = .ok (.invokestatic 129, 3) := by decide +kernel
theorem dX11_worth_18 : decode cX11_worth 18 = .ok (.ifCond .eq 13, 3) := by decide +kernel
theorem dX11_worth_21 : decode cX11_worth 21 = .ok (.aload_n 0, 1) := by decide +kernel
theorem dX11_worth_22 : decode cX11_worth 22 = .ok (.iload_n 1, 1) := by decide +kernel
theorem dX11_worth_23 : decode cX11_worth 23 = .ok (.i2l, 1) := by decide +kernel
theorem dX11_worth_24 : decode cX11_worth 24 = .ok (.iload_n 2, 1) := by decide +kernel
theorem dX11_worth_25 : decode cX11_worth 25 = .ok (.invokevirtual 437, 3) := by decide +kernel
theorem dX11_worth_28 : decode cX11_worth 28 = .ok (.goto 6, 3) := by decide +kernel
theorem dX11_worth_31 : decode cX11_worth 31 = .ok (.ldc2_w 382, 3) := by decide +kernel
theorem dX11_worth_34 : decode cX11_worth 34 = .ok (.lreturn, 1) := by decide +kernel
set_option maxRecDepth 100000 in
theorem c_M_worth (σ : MS) (p0 : Int32) (p1 : Int32) : Ct z (wM z τ) rJ eqA yX11_worth cX11_worth 3 (some .long) 2 0 0 [.ref 0, .int p0, .int p1] σ ((M_worth σ p0 p1).map fun r => (r, σ)) := by
  refine Ct.of (by decide) (Nat.le_of_ble_eq_true rfl) (fun ad x hC hR _ => ?_)
  show AT z x 3 (wM z τ) rJ (eqA ad) 0 0 0 0 ad 0 [(0, .ref 0), (1, .int p0), (2, .int p1)] [] σ ((M_worth σ p0 p1).map fun r => (r, σ))
  unfold M_worth
  refine at_iload_n (j := 1) hC rfl rfl dX11_worth_0 ?_
  refine at_iconst hC ic_0 dX11_worth_1 ?_
  refine at_sipush hC si_9999 dX11_worth_2 ?_
  refine ap_callSI hC hR lk_X11_129 (c_M_in σ p0 0 9999) dX11_worth_5 rfl rfl ⟨by decide, by decide⟩ (Nat.le_of_ble_eq_true rfl) ⟨Nat.le_refl 0, Nat.le_refl 0⟩ (fun r1 _ => ?_)
  refine ap_if_eq (tgt := 31) hC dX11_worth_8 rfl (fun _ => ?_) (fun _ => ?_)
  · refine at_ldc2 hC kl_X11_382 dX11_worth_31 ?_
    exact at_lret (F := eqA ad) (ra := rJ) hC dX11_worth_34 rfl (Nat.le_refl 0) (Nat.le_refl 0) rfl
  · refine at_iload_n (j := 2) hC rfl rfl dX11_worth_11 ?_
    refine at_iconst hC ic_0 dX11_worth_12 ?_
    refine at_bipush hC bi_99 dX11_worth_13 ?_
    refine ap_callSI hC hR lk_X11_129 (c_M_in σ p1 0 99) dX11_worth_15 rfl rfl ⟨by decide, by decide⟩ (Nat.le_of_ble_eq_true rfl) ⟨Nat.le_refl 0, Nat.le_refl 0⟩ (fun r2 _ => ?_)
    refine ap_if_eq (tgt := 31) hC dX11_worth_18 rfl (fun _ => ?_) (fun _ => ?_)
    · refine at_ldc2 hC kl_X11_382 dX11_worth_31 ?_
      exact at_lret (F := eqA ad) (ra := rJ) hC dX11_worth_34 rfl (Nat.le_refl 0) (Nat.le_refl 0) rfl
    · refine at_aload_n (j := 0) hC rfl rfl dX11_worth_21 ?_
      refine at_iload_n (j := 1) hC rfl rfl dX11_worth_22 ?_
      refine at_i2l hC dX11_worth_23 ?_
      refine at_iload_n (j := 2) hC rfl rfl dX11_worth_24 ?_
      refine ap_callVJ hC hR lk_X11_437 (c_M_worthOf σ p0.toInt64 p1) dX11_worth_25 recX11 rfl rfl ⟨by decide, by decide⟩ (Nat.le_of_ble_eq_true rfl) ⟨Nat.le_refl 0, Nat.le_refl 0⟩ (fun r3 _ => ?_)
      refine at_goto (tgt := 34) hC dX11_worth_28 rfl ?_
      exact at_lret (F := eqA ad) (ra := rJ) hC dX11_worth_34 rfl (Nat.le_refl 0) (Nat.le_refl 0) rfl
theorem dX11_value_0 : decode cX11_value 0 = .ok (.iload_n 1, 1) := by decide +kernel
theorem dX11_value_1 : decode cX11_value 1 = .ok (.invokestatic 379, 3) := by decide +kernel
theorem dX11_value_4 : decode cX11_value 4 = .ok (.ifCond .eq 11, 3) := by decide +kernel
theorem dX11_value_7 : decode cX11_value 7 = .ok (.aload_n 0, 1) := by decide +kernel
theorem dX11_value_8 : decode cX11_value 8 = .ok (.iload_n 2, 1) := by decide +kernel
theorem dX11_value_9 : decode cX11_value 9 = .ok (.invokevirtual 212, 3) := by decide +kernel
theorem dX11_value_12 : decode cX11_value 12 = .ok (.ifCond .ne 7, 3) := by decide +kernel
theorem dX11_value_15 : decode cX11_value 15 = .ok (.ldc2_w 382, 3) := by decide +kernel
theorem dX11_value_18 : decode cX11_value 18 = .ok (.lreturn, 1) := by decide +kernel
theorem dX11_value_19 : decode cX11_value 19 = .ok (.aload_n 0, 1) := by decide +kernel
theorem dX11_value_20 : decode cX11_value 20 = .ok (.iload_n 2, 1) := by decide +kernel
theorem dX11_value_21 : decode cX11_value 21 = .ok (.invokevirtual 143, 3) := by decide +kernel
theorem dX11_value_24 : decode cX11_value 24 = .ok (.aload_n 0, 1) := by decide +kernel
theorem dX11_value_25 : decode cX11_value 25 = .ok (.iload_n 1, 1) := by decide +kernel
theorem dX11_value_26 : decode cX11_value 26 = .ok (.invokevirtual 426, 3) := by decide +kernel
theorem dX11_value_29 : decode cX11_value 29 = .ok (.lstore_n 3, 1) := by decide +kernel
theorem dX11_value_30 : decode cX11_value 30 = .ok (.bipush 100, 2) := by decide +kernel
theorem dX11_value_32 : decode cX11_value 32 = .ok (.iload_n 1, 1) := by decide +kernel
theorem dX11_value_33 : decode cX11_value 33 = .ok (.imul, 1) := by decide +kernel
theorem dX11_value_34 : decode cX11_value 34 = .ok (.bipush 99, 2) := by decide +kernel
theorem dX11_value_36 : decode cX11_value 36 = .ok (.iadd, 1) := by decide +kernel
theorem dX11_value_37 : decode cX11_value 37 = .ok (.istore 5, 2) := by decide +kernel
theorem dX11_value_39 : decode cX11_value 39 = .ok (.iconst 0, 1) := by decide +kernel
theorem dX11_value_40 : decode cX11_value 40 = .ok (.istore 6, 2) := by decide +kernel
theorem dX11_value_42 : decode cX11_value 42 = .ok (.iload 6, 2) := by decide +kernel
theorem dX11_value_44 : decode cX11_value 44 = .ok (.aload_n 0, 1) := by decide +kernel
theorem dX11_value_45 : decode cX11_value 45 = .ok (.getfield 126, 3) := by decide +kernel
theorem dX11_value_48 : decode cX11_value 48 = .ok (.if_icmp .ge 170, 3) := by decide +kernel
theorem dX11_value_51 : decode cX11_value 51 = .ok (.aload_n 0, 1) := by decide +kernel
theorem dX11_value_52 : decode cX11_value 52 = .ok (.iload 6, 2) := by decide +kernel
theorem dX11_value_54 : decode cX11_value 54 = .ok (.iload 5, 2) := by decide +kernel
theorem dX11_value_56 : decode cX11_value 56 = .ok (.invokevirtual 162, 3) := by decide +kernel
theorem dX11_value_59 : decode cX11_value 59 = .ok (.ifCond .eq 117, 3) := by decide +kernel
theorem dX11_value_62 : decode cX11_value 62 = .ok (.lload_n 3, 1) := by decide +kernel
theorem dX11_value_63 : decode cX11_value 63 = .ok (.aload_n 0, 1) := by decide +kernel
theorem dX11_value_64 : decode cX11_value 64 = .ok (.aload_n 0, 1) := by decide +kernel
theorem dX11_value_65 : decode cX11_value 65 = .ok (.iconst 0, 1) := by decide +kernel
theorem dX11_value_66 : decode cX11_value 66 = .ok (.iload 6, 2) := by decide +kernel
theorem dX11_value_68 : decode cX11_value 68 = .ok (.iload 5, 2) := by decide +kernel
theorem dX11_value_70 : decode cX11_value 70 = .ok (.iload 5, 2) := by decide +kernel
theorem dX11_value_72 : decode cX11_value 72 = .ok (.invokevirtual 193, 3) := by decide +kernel
theorem dX11_value_75 : decode cX11_value 75 = .ok (.i2l, 1) := by decide +kernel
theorem dX11_value_76 : decode cX11_value 76 = .ok (.aload_n 0, 1) := by decide +kernel
theorem dX11_value_77 : decode cX11_value 77 = .ok (.iload 6, 2) := by decide +kernel
theorem dX11_value_79 : decode cX11_value 79 = .ok (.iload 5, 2) := by decide +kernel
theorem dX11_value_81 : decode cX11_value 81 = .ok (.invokevirtual 206, 3) := by decide +kernel
theorem dX11_value_84 : decode cX11_value 84 = .ok (.invokevirtual 437, 3) := by decide +kernel
theorem dX11_value_87 : decode cX11_value 87 = .ok (.ladd, 1) := by decide +kernel
theorem dX11_value_88 : decode cX11_value 88 = .ok (.lstore_n 3, 1) := by decide +kernel
theorem dX11_value_89 : decode cX11_value 89 = .ok (.aload_n 0, 1) := by decide +kernel
theorem dX11_value_90 : decode cX11_value 90 = .ok (.iload 6, 2) := by decide +kernel
theorem dX11_value_92 : decode cX11_value 92 = .ok (.iload 5, 2) := by decide +kernel
theorem dX11_value_94 : decode cX11_value 94 = .ok (.invokevirtual 180, 3) := by decide +kernel
theorem dX11_value_97 : decode cX11_value 97 = .ok (.istore 7, 2) := by decide +kernel
theorem dX11_value_99 : decode cX11_value 99 = .ok (.iload 7, 2) := by decide +kernel
theorem dX11_value_101 : decode cX11_value 101 = .ok (.iconst (-1), 1) := by decide +kernel
theorem dX11_value_102 : decode cX11_value 102 = .ok (.if_icmp .ne 7, 3) := by decide +kernel
theorem dX11_value_105 : decode cX11_value 105 = .ok (.lconst 0, 1) := by decide +kernel
theorem dX11_value_106 : decode cX11_value 106 = .ok (.goto 52, 3) := by decide +kernel
theorem dX11_value_109 : decode cX11_value 109 = .ok (.aload_n 0, 1) := by decide +kernel
theorem dX11_value_110 : decode cX11_value 110 = .ok (.aload_n 0, 1) := by decide +kernel
theorem dX11_value_111 : decode cX11_value 111 = .ok (.iconst 1, 1) := by decide +kernel
theorem dX11_value_112 : decode cX11_value 112 = .ok (.iload 6, 2) := by decide +kernel
theorem dX11_value_114 : decode cX11_value 114 = .ok (.iload 5, 2) := by decide +kernel
theorem dX11_value_116 : decode cX11_value 116 = .ok (.iload 5, 2) := by decide +kernel
theorem dX11_value_118 : decode cX11_value 118 = .ok (.invokevirtual 193, 3) := by decide +kernel
theorem dX11_value_121 : decode cX11_value 121 = .ok (.i2l, 1) := by decide +kernel
theorem dX11_value_122 : decode cX11_value 122 = .ok (.aload_n 0, 1) := by decide +kernel
theorem dX11_value_123 : decode cX11_value 123 = .ok (.iload 7, 2) := by decide +kernel
theorem dX11_value_125 : decode cX11_value 125 = .ok (.iload 5, 2) := by decide +kernel
theorem dX11_value_127 : decode cX11_value 127 = .ok (.invokevirtual 206, 3) := by decide +kernel
theorem dX11_value_130 : decode cX11_value 130 = .ok (.invokevirtual 437, 3) := by decide +kernel
theorem dX11_value_133 : decode cX11_value 133 = .ok (.aload_n 0, 1) := by decide +kernel
theorem dX11_value_134 : decode cX11_value 134 = .ok (.aload_n 0, 1) := by decide +kernel
theorem dX11_value_135 : decode cX11_value 135 = .ok (.iconst 1, 1) := by decide +kernel
theorem dX11_value_136 : decode cX11_value 136 = .ok (.iload 6, 2) := by decide +kernel
theorem dX11_value_138 : decode cX11_value 138 = .ok (.iload 5, 2) := by decide +kernel
theorem dX11_value_140 : decode cX11_value 140 = .ok (.iload 5, 2) := by decide +kernel
theorem dX11_value_142 : decode cX11_value 142 = .ok (.invokevirtual 193, 3) := by decide +kernel
theorem dX11_value_145 : decode cX11_value 145 = .ok (.i2l, 1) := by decide +kernel
theorem dX11_value_146 : decode cX11_value 146 = .ok (.aload_n 0, 1) := by decide +kernel
theorem dX11_value_147 : decode cX11_value 147 = .ok (.iload 6, 2) := by decide +kernel
theorem dX11_value_149 : decode cX11_value 149 = .ok (.iload 5, 2) := by decide +kernel
theorem dX11_value_151 : decode cX11_value 151 = .ok (.invokevirtual 206, 3) := by decide +kernel
theorem dX11_value_154 : decode cX11_value 154 = .ok (.invokevirtual 437, 3) := by decide +kernel
theorem dX11_value_157 : decode cX11_value 157 = .ok (.lsub, 1) := by decide +kernel
theorem dX11_value_158 : decode cX11_value 158 = .ok (.lstore 8, 2) := by decide +kernel
theorem dX11_value_160 : decode cX11_value 160 = .ok (.lload_n 3, 1) := by decide +kernel
theorem dX11_value_161 : decode cX11_value 161 = .ok (.lload 8, 2) := by decide +kernel
theorem dX11_value_163 : decode cX11_value 163 = .ok (.lconst 0, 1) := by decide +kernel
theorem dX11_value_164 : decode cX11_value 164 = .ok (.lcmp, 1) := by decide +kernel
theorem dX11_value_165 : decode cX11_value 165 = .ok (.ifCond .le 8, 3) := by decide +kernel
theorem dX11_value_168 : decode cX11_value 168 = .ok (.lload 8, 2) := by decide +kernel
theorem dX11_value_170 : decode cX11_value 170 = .ok (.goto 4, 3) := by decide +kernel
theorem dX11_value_173 : decode cX11_value 173 = .ok (.lconst 0, 1) := by decide +kernel
theorem dX11_value_174 : decode cX11_value 174 = .ok (.lsub, 1) := by decide +kernel
theorem dX11_value_175 : decode cX11_value 175 = .ok (.lstore_n 3, 1) := by decide +kernel
theorem dX11_value_176 : decode cX11_value 176 = .ok (.aload_n 0, 1) := by decide +kernel
theorem dX11_value_177 : decode cX11_value 177 = .ok (.iload 6, 2) := by decide +kernel
theorem dX11_value_179 : decode cX11_value 179 = .ok (.iload 5, 2) := by decide +kernel
theorem dX11_value_181 : decode cX11_value 181 = .ok (.invokevirtual 209, 3) := by decide +kernel
theorem dX11_value_184 : decode cX11_value 184 = .ok (.iconst (-1), 1) := by decide +kernel
theorem dX11_value_185 : decode cX11_value 185 = .ok (.if_icmp .eq 27, 3) := by decide +kernel
theorem dX11_value_188 : decode cX11_value 188 = .ok (.lload_n 3, 1) := by decide +kernel
theorem dX11_value_189 : decode cX11_value 189 = .ok (.aload_n 0, 1) := by decide +kernel
theorem dX11_value_190 : decode cX11_value 190 = .ok (.aload_n 0, 1) := by decide +kernel
theorem dX11_value_191 : decode cX11_value 191 = .ok (.iload 6, 2) := by decide +kernel
theorem dX11_value_193 : decode cX11_value 193 = .ok (.iload 5, 2) := by decide +kernel
theorem dX11_value_195 : decode cX11_value 195 = .ok (.invokevirtual 395, 3) := by decide +kernel
theorem dX11_value_198 : decode cX11_value 198 = .ok (.i2l, 1) := by decide +kernel
theorem dX11_value_199 : decode cX11_value 199 = .ok (.aload_n 0, 1) := by decide +kernel
theorem dX11_value_200 : decode cX11_value 200 = .ok (.iload 6, 2) := by decide +kernel
theorem dX11_value_202 : decode cX11_value 202 = .ok (.iload 5, 2) := by decide +kernel
theorem dX11_value_204 : decode cX11_value 204 = .ok (.invokevirtual 206, 3) := by decide +kernel
theorem dX11_value_207 : decode cX11_value 207 = .ok (.invokevirtual 437, 3) := by decide +kernel
theorem dX11_value_210 : decode cX11_value 210 = .ok (.lsub, 1) := by decide +kernel
theorem dX11_value_211 : decode cX11_value 211 = .ok (.lstore_n 3, 1) := by decide +kernel
theorem dX11_value_212 : decode cX11_value 212 = .ok (.iinc 6 1, 3) := by decide +kernel
theorem dX11_value_215 : decode cX11_value 215 = .ok (.goto (-173), 3) := by decide +kernel
theorem dX11_value_218 : decode cX11_value 218 = .ok (.lload_n 3, 1) := by decide +kernel
theorem dX11_value_219 : decode cX11_value 219 = .ok (.lreturn, 1) := by decide +kernel
set_option maxRecDepth 100000 in
theorem t_M_value_J212 (hC : CX z ad x cX11_value RX11 10 (some .long)) (hR : x.2.2.1 = rmk 624 0 0) (k_42 : MS → Int64 → Int32 → Int32 → Option (Int64 × MS)) (hk_42 : ∀ (σ : MS) (a3 : Int64) (a5 : Int32) (a6 : Int32), AT z x 10 (wM z τ) rJ (eqA ad) 0 0 0 0 ad 42 [(0, .ref 0), (3, .long a3), (5, .int a5), (6, .int a6)] [] σ (k_42 σ a3 a5 a6)) (σ : MS) (a3 : Int64) (a5 : Int32) (a6 : Int32) : AT z x 10 (wM z τ) rJ (eqA ad) 0 0 0 0 ad 212 [(0, .ref 0), (3, .long a3), (5, .int a5), (6, .int a6)] [] σ (M_value_J212 k_42 σ a3 a5 a6) := by
  unfold M_value_J212
  refine at_iinc (j := 3) (v := a6 + 1) (lv' := [(6, .int (a6 + 1)), (0, .ref 0), (3, .long a3), (5, .int a5)]) hC dX11_value_212 rfl rfl (by decide) rfl ?_
  refine at_goto (tgt := 42) hC dX11_value_215 rfl ?_
  refine at_drop (lv' := [(0, .ref 0), (3, .long a3), (5, .int a5), (6, .int (a6 + 1))]) [1, 2, 3, 0] rfl ?_
  exact hk_42 σ a3 a5 (a6 + 1)
set_option maxRecDepth 100000 in
theorem t_M_value_J176 (hC : CX z ad x cX11_value RX11 10 (some .long)) (hR : x.2.2.1 = rmk 624 0 0) (k_42 : MS → Int64 → Int32 → Int32 → Option (Int64 × MS)) (hk_42 : ∀ (σ : MS) (a3 : Int64) (a5 : Int32) (a6 : Int32), AT z x 10 (wM z τ) rJ (eqA ad) 0 0 0 0 ad 42 [(0, .ref 0), (3, .long a3), (5, .int a5), (6, .int a6)] [] σ (k_42 σ a3 a5 a6)) (σ : MS) (a3 : Int64) (a5 : Int32) (a6 : Int32) : AT z x 10 (wM z τ) rJ (eqA ad) 0 0 0 0 ad 176 [(0, .ref 0), (3, .long a3), (5, .int a5), (6, .int a6)] [] σ (M_value_J176 k_42 σ a3 a5 a6) := by
  unfold M_value_J176
  refine at_aload_n (j := 0) hC rfl rfl dX11_value_176 ?_
  refine at_iload (j := 3) hC rfl dX11_value_177 ?_
  refine at_iload (j := 2) hC rfl dX11_value_179 ?_
  refine at_callVI hC hR lk_X11_209 (c_M_widowOf σ a6 a5) dX11_value_181 recX11 rfl rfl ⟨by decide, by decide⟩ (Nat.le_of_ble_eq_true rfl) ⟨Nat.le_refl 0, Nat.le_refl 0⟩ (fun r6 r6s _ => ?_)
  refine at_iconst hC ic_m1 dX11_value_184 ?_
  refine at_icmp_eq (tgt := 212) hC dX11_value_185 rfl (fun _ => ?_) (fun _ => ?_)
  · exact t_M_value_J212 hC hR k_42 hk_42 r6s a3 a5 a6
  · refine at_lload_n (j := 1) hC rfl rfl dX11_value_188 ?_
    refine at_aload_n (j := 0) hC rfl rfl dX11_value_189 ?_
    refine at_aload_n (j := 0) hC rfl rfl dX11_value_190 ?_
    refine at_iload (j := 3) hC rfl dX11_value_191 ?_
    refine at_iload (j := 2) hC rfl dX11_value_193 ?_
    refine at_callVI hC hR lk_X11_395 (c_M_rentOn r6s a6 a5) dX11_value_195 recX11 rfl rfl ⟨by decide, by decide⟩ (Nat.le_of_ble_eq_true rfl) ⟨Nat.le_refl 0, Nat.le_refl 0⟩ (fun r7 r7s _ => ?_)
    refine at_i2l hC dX11_value_198 ?_
    refine at_aload_n (j := 0) hC rfl rfl dX11_value_199 ?_
    refine at_iload (j := 3) hC rfl dX11_value_200 ?_
    refine at_iload (j := 2) hC rfl dX11_value_202 ?_
    refine at_callVpI hC hR lk_X11_206 (c_M_ageOf r7s a6 a5) dX11_value_204 recX11 rfl rfl ⟨by decide, by decide⟩ (Nat.le_of_ble_eq_true rfl) ⟨Nat.le_refl 0, Nat.le_refl 0⟩ (fun r8 _ => ?_)
    refine at_callVpJ hC hR lk_X11_437 (c_M_worthOf r7s r7.toInt64 r8) dX11_value_207 recX11 rfl rfl ⟨by decide, by decide⟩ (Nat.le_of_ble_eq_true rfl) ⟨Nat.le_refl 0, Nat.le_refl 0⟩ (fun r9 _ => ?_)
    refine at_lsub hC dX11_value_210 ?_
    refine at_lstore_n (lv' := [(3, .long (a3 - r9)), (0, .ref 0), (5, .int a5), (6, .int a6)]) hC rfl dX11_value_211 (by decide) rfl ?_
    refine at_drop (lv' := [(0, .ref 0), (3, .long (a3 - r9)), (5, .int a5), (6, .int a6)]) [1, 0, 2, 3] rfl ?_
    exact t_M_value_J212 hC hR k_42 hk_42 r7s (a3 - r9) a5 a6
set_option maxRecDepth 100000 in
theorem t_M_value_J174 (hC : CX z ad x cX11_value RX11 10 (some .long)) (hR : x.2.2.1 = rmk 624 0 0) (k_42 : MS → Int64 → Int32 → Int32 → Option (Int64 × MS)) (hk_42 : ∀ (σ : MS) (a3 : Int64) (a5 : Int32) (a6 : Int32), AT z x 10 (wM z τ) rJ (eqA ad) 0 0 0 0 ad 42 [(0, .ref 0), (3, .long a3), (5, .int a5), (6, .int a6)] [] σ (k_42 σ a3 a5 a6)) (σ : MS) (a5 : Int32) (a6 : Int32) (s0 : Int64) (s1 : Int64) : AT z x 10 (wM z τ) rJ (eqA ad) 0 0 0 0 ad 174 [(0, .ref 0), (5, .int a5), (6, .int a6)] [.long s0, .long s1] σ (M_value_J174 k_42 σ a5 a6 s0 s1) := by
  unfold M_value_J174
  refine at_lsub hC dX11_value_174 ?_
  refine at_lstore_n (lv' := [(3, .long (s1 - s0)), (0, .ref 0), (5, .int a5), (6, .int a6)]) hC rfl dX11_value_175 (by decide) rfl ?_
  refine at_drop (lv' := [(0, .ref 0), (3, .long (s1 - s0)), (5, .int a5), (6, .int a6)]) [1, 0, 2, 3] rfl ?_
  exact t_M_value_J176 hC hR k_42 hk_42 σ (s1 - s0) a5 a6
set_option maxRecDepth 100000 in
theorem t_M_value_J158 (hC : CX z ad x cX11_value RX11 10 (some .long)) (hR : x.2.2.1 = rmk 624 0 0) (k_42 : MS → Int64 → Int32 → Int32 → Option (Int64 × MS)) (hk_42 : ∀ (σ : MS) (a3 : Int64) (a5 : Int32) (a6 : Int32), AT z x 10 (wM z τ) rJ (eqA ad) 0 0 0 0 ad 42 [(0, .ref 0), (3, .long a3), (5, .int a5), (6, .int a6)] [] σ (k_42 σ a3 a5 a6)) (σ : MS) (a3 : Int64) (a5 : Int32) (a6 : Int32) (s0 : Int64) : AT z x 10 (wM z τ) rJ (eqA ad) 0 0 0 0 ad 158 [(0, .ref 0), (3, .long a3), (5, .int a5), (6, .int a6)] [.long s0] σ (M_value_J158 k_42 σ a3 a5 a6 s0) := by
  unfold M_value_J158
  refine at_lstore (lv' := [(8, .long s0), (0, .ref 0), (3, .long a3), (5, .int a5), (6, .int a6)]) hC dX11_value_158 (by decide) rfl ?_
  refine at_lload_n (j := 2) hC rfl rfl dX11_value_160 ?_
  refine at_lload (j := 0) hC rfl dX11_value_161 ?_
  refine at_lconst hC lc_0 dX11_value_163 ?_
  refine at_lcmp hC dX11_value_164 ?_
  refine at_if_le (tgt := 173) hC dX11_value_165 rfl (fun _ => ?_) (fun _ => ?_)
  · refine at_lconst hC lc_0 dX11_value_173 ?_
    refine at_drop (lv' := [(0, .ref 0), (5, .int a5), (6, .int a6)]) [1, 3, 4] rfl ?_
    exact t_M_value_J174 hC hR k_42 hk_42 σ a5 a6 0 a3
  · refine at_lload (j := 0) hC rfl dX11_value_168 ?_
    refine at_goto (tgt := 174) hC dX11_value_170 rfl ?_
    refine at_drop (lv' := [(0, .ref 0), (5, .int a5), (6, .int a6)]) [1, 3, 4] rfl ?_
    exact t_M_value_J174 hC hR k_42 hk_42 σ a5 a6 s0 a3
set_option maxRecDepth 100000 in
theorem t_M_value_L42 (hC : CX z ad x cX11_value RX11 10 (some .long)) (hR : x.2.2.1 = rmk 624 0 0) (n : Nat) (σ : MS) (a3 : Int64) (a5 : Int32) (a6 : Int32) : AT z x 10 (wM z τ) rJ (eqA ad) 0 0 0 0 ad 42 [(0, .ref 0), (3, .long a3), (5, .int a5), (6, .int a6)] [] σ (M_value_L42 n σ a3 a5 a6) := by
  revert σ a3 a5 a6
  show ∀ (σ : MS) (a3 : Int64) (a5 : Int32) (a6 : Int32), AT z x 10 (wM z τ) rJ (eqA ad) 0 0 0 0 ad 42 [(0, .ref 0), (3, .long a3), (5, .int a5), (6, .int a6)] [] σ (M_value_L42_r n σ a3 a5 a6)
  induction n with
  | zero => intro σ a3 a5 a6; exact at_none
  | succ n hk_42 =>
    intro σ a3 a5 a6
    unfold M_value_L42_r
    refine at_iload (j := 3) hC rfl dX11_value_42 ?_
    refine at_aload_n (j := 0) hC rfl rfl dX11_value_44 ?_
    refine gf_X11_126 hC dX11_value_45 ?_
    refine at_icmp_ge (tgt := 218) hC dX11_value_48 rfl (fun _ => ?_) (fun _ => ?_)
    · refine at_lload_n (j := 1) hC rfl rfl dX11_value_218 ?_
      exact at_lret (F := eqA ad) (ra := rJ) hC dX11_value_219 rfl (Nat.le_refl 0) (Nat.le_refl 0) rfl
    · refine at_aload_n (j := 0) hC rfl rfl dX11_value_51 ?_
      refine at_iload (j := 3) hC rfl dX11_value_52 ?_
      refine at_iload (j := 2) hC rfl dX11_value_54 ?_
      refine at_callVpI hC hR lk_X11_162 (c_M_isMember σ a6 a5) dX11_value_56 recX11 rfl rfl ⟨by decide, by decide⟩ (Nat.le_of_ble_eq_true rfl) ⟨Nat.le_refl 0, Nat.le_refl 0⟩ (fun r5 _ => ?_)
      refine at_if_eq (tgt := 176) hC dX11_value_59 rfl (fun _ => ?_) (fun _ => ?_)
      · exact t_M_value_J176 hC hR (M_value_L42_r n) hk_42 σ a3 a5 a6
      · refine at_lload_n (j := 1) hC rfl rfl dX11_value_62 ?_
        refine at_aload_n (j := 0) hC rfl rfl dX11_value_63 ?_
        refine at_aload_n (j := 0) hC rfl rfl dX11_value_64 ?_
        refine at_iconst hC ic_0 dX11_value_65 ?_
        refine at_iload (j := 3) hC rfl dX11_value_66 ?_
        refine at_iload (j := 2) hC rfl dX11_value_68 ?_
        refine at_iload (j := 2) hC rfl dX11_value_70 ?_
        refine at_callVI hC hR lk_X11_193 (c_M_ruled σ 0 a6 a5 a5) dX11_value_72 recX11 rfl rfl ⟨by decide, by decide⟩ (Nat.le_of_ble_eq_true rfl) ⟨Nat.le_refl 0, Nat.le_refl 0⟩ (fun r10 r10s _ => ?_)
        refine at_i2l hC dX11_value_75 ?_
        refine at_aload_n (j := 0) hC rfl rfl dX11_value_76 ?_
        refine at_iload (j := 3) hC rfl dX11_value_77 ?_
        refine at_iload (j := 2) hC rfl dX11_value_79 ?_
        refine at_callVpI hC hR lk_X11_206 (c_M_ageOf r10s a6 a5) dX11_value_81 recX11 rfl rfl ⟨by decide, by decide⟩ (Nat.le_of_ble_eq_true rfl) ⟨Nat.le_refl 0, Nat.le_refl 0⟩ (fun r11 _ => ?_)
        refine at_callVpJ hC hR lk_X11_437 (c_M_worthOf r10s r10.toInt64 r11) dX11_value_84 recX11 rfl rfl ⟨by decide, by decide⟩ (Nat.le_of_ble_eq_true rfl) ⟨Nat.le_refl 0, Nat.le_refl 0⟩ (fun r12 _ => ?_)
        refine at_ladd hC dX11_value_87 ?_
        refine at_lstore_n (lv' := [(3, .long (a3 + r12)), (0, .ref 0), (5, .int a5), (6, .int a6)]) hC rfl dX11_value_88 (by decide) rfl ?_
        refine at_aload_n (j := 1) hC rfl rfl dX11_value_89 ?_
        refine at_iload (j := 3) hC rfl dX11_value_90 ?_
        refine at_iload (j := 2) hC rfl dX11_value_92 ?_
        refine at_callVpI hC hR lk_X11_180 (c_M_wedTo r10s a6 a5) dX11_value_94 recX11 rfl rfl ⟨by decide, by decide⟩ (Nat.le_of_ble_eq_true rfl) ⟨Nat.le_refl 0, Nat.le_refl 0⟩ (fun r13 _ => ?_)
        refine at_istore (lv' := [(7, .int r13), (3, .long (a3 + r12)), (0, .ref 0), (5, .int a5), (6, .int a6)]) hC dX11_value_97 (by decide) rfl ?_
        refine at_iload (j := 0) hC rfl dX11_value_99 ?_
        refine at_iconst hC ic_m1 dX11_value_101 ?_
        refine at_icmp_ne (tgt := 109) hC dX11_value_102 rfl (fun _ => ?_) (fun _ => ?_)
        · refine at_aload_n (j := 2) hC rfl rfl dX11_value_109 ?_
          refine at_aload_n (j := 2) hC rfl rfl dX11_value_110 ?_
          refine at_iconst hC ic_1 dX11_value_111 ?_
          refine at_iload (j := 4) hC rfl dX11_value_112 ?_
          refine at_iload (j := 3) hC rfl dX11_value_114 ?_
          refine at_iload (j := 3) hC rfl dX11_value_116 ?_
          refine at_callVI hC hR lk_X11_193 (c_M_ruled r10s 1 a6 a5 a5) dX11_value_118 recX11 rfl rfl ⟨by decide, by decide⟩ (Nat.le_of_ble_eq_true rfl) ⟨Nat.le_refl 0, Nat.le_refl 0⟩ (fun r14 r14s _ => ?_)
          refine at_i2l hC dX11_value_121 ?_
          refine at_aload_n (j := 2) hC rfl rfl dX11_value_122 ?_
          refine at_iload (j := 0) hC rfl dX11_value_123 ?_
          refine at_iload (j := 3) hC rfl dX11_value_125 ?_
          refine at_callVpI hC hR lk_X11_206 (c_M_ageOf r14s r13 a5) dX11_value_127 recX11 rfl rfl ⟨by decide, by decide⟩ (Nat.le_of_ble_eq_true rfl) ⟨Nat.le_refl 0, Nat.le_refl 0⟩ (fun r15 _ => ?_)
          refine at_callVpJ hC hR lk_X11_437 (c_M_worthOf r14s r14.toInt64 r15) dX11_value_130 recX11 rfl rfl ⟨by decide, by decide⟩ (Nat.le_of_ble_eq_true rfl) ⟨Nat.le_refl 0, Nat.le_refl 0⟩ (fun r16 _ => ?_)
          refine at_aload_n (j := 2) hC rfl rfl dX11_value_133 ?_
          refine at_aload_n (j := 2) hC rfl rfl dX11_value_134 ?_
          refine at_iconst hC ic_1 dX11_value_135 ?_
          refine at_iload (j := 4) hC rfl dX11_value_136 ?_
          refine at_iload (j := 3) hC rfl dX11_value_138 ?_
          refine at_iload (j := 3) hC rfl dX11_value_140 ?_
          refine at_callVI hC hR lk_X11_193 (c_M_ruled r14s 1 a6 a5 a5) dX11_value_142 recX11 rfl rfl ⟨by decide, by decide⟩ (Nat.le_of_ble_eq_true rfl) ⟨Nat.le_refl 0, Nat.le_refl 0⟩ (fun r17 r17s _ => ?_)
          refine at_i2l hC dX11_value_145 ?_
          refine at_aload_n (j := 2) hC rfl rfl dX11_value_146 ?_
          refine at_iload (j := 4) hC rfl dX11_value_147 ?_
          refine at_iload (j := 3) hC rfl dX11_value_149 ?_
          refine at_callVpI hC hR lk_X11_206 (c_M_ageOf r17s a6 a5) dX11_value_151 recX11 rfl rfl ⟨by decide, by decide⟩ (Nat.le_of_ble_eq_true rfl) ⟨Nat.le_refl 0, Nat.le_refl 0⟩ (fun r18 _ => ?_)
          refine at_callVpJ hC hR lk_X11_437 (c_M_worthOf r17s r17.toInt64 r18) dX11_value_154 recX11 rfl rfl ⟨by decide, by decide⟩ (Nat.le_of_ble_eq_true rfl) ⟨Nat.le_refl 0, Nat.le_refl 0⟩ (fun r19 _ => ?_)
          refine at_lsub hC dX11_value_157 ?_
          refine at_drop (lv' := [(0, .ref 0), (3, .long (a3 + r12)), (5, .int a5), (6, .int a6)]) [2, 1, 3, 4] rfl ?_
          exact t_M_value_J158 hC hR (M_value_L42_r n) hk_42 r17s (a3 + r12) a5 a6 (r16 - r19)
        · refine at_lconst hC lc_0 dX11_value_105 ?_
          refine at_goto (tgt := 158) hC dX11_value_106 rfl ?_
          refine at_drop (lv' := [(0, .ref 0), (3, .long (a3 + r12)), (5, .int a5), (6, .int a6)]) [2, 1, 3, 4] rfl ?_
          exact t_M_value_J158 hC hR (M_value_L42_r n) hk_42 r10s (a3 + r12) a5 a6 0
set_option maxRecDepth 100000 in
theorem c_M_value (σ : MS) (p0 : Int32) (p1 : Int32) : Ct z (wM z τ) rJ eqA yX11_value cX11_value 10 (some .long) 624 0 0 [.ref 0, .int p0, .int p1] σ (M_value σ p0 p1) := by
  refine Ct.of (by decide) (Nat.le_of_ble_eq_true rfl) (fun ad x hC hR _ => ?_)
  show AT z x 10 (wM z τ) rJ (eqA ad) 0 0 0 0 ad 0 [(0, .ref 0), (1, .int p0), (2, .int p1)] [] σ (M_value σ p0 p1)
  unfold M_value
  refine at_iload_n (j := 1) hC rfl rfl dX11_value_0 ?_
  refine at_callSpI hC hR lk_X11_379 (c_M_isYear σ p0) dX11_value_1 rfl rfl ⟨by decide, by decide⟩ (Nat.le_of_ble_eq_true rfl) ⟨Nat.le_refl 0, Nat.le_refl 0⟩ (fun r1 _ => ?_)
  refine at_if_eq (tgt := 15) hC dX11_value_4 rfl (fun _ => ?_) (fun _ => ?_)
  · refine at_ldc2 hC kl_X11_382 dX11_value_15 ?_
    exact at_lret (F := eqA ad) (ra := rJ) hC dX11_value_18 rfl (Nat.le_refl 0) (Nat.le_refl 0) rfl
  · refine at_aload_n (j := 0) hC rfl rfl dX11_value_7 ?_
    refine at_iload_n (j := 2) hC rfl rfl dX11_value_8 ?_
    refine at_callVpI hC hR lk_X11_212 (c_M_isBy σ p1) dX11_value_9 recX11 rfl rfl ⟨by decide, by decide⟩ (Nat.le_of_ble_eq_true rfl) ⟨Nat.le_refl 0, Nat.le_refl 0⟩ (fun r2 _ => ?_)
    refine at_if_ne (tgt := 19) hC dX11_value_12 rfl (fun _ => ?_) (fun _ => ?_)
    · refine at_aload_n (j := 0) hC rfl rfl dX11_value_19 ?_
      refine at_iload_n (j := 2) hC rfl rfl dX11_value_20 ?_
      refine at_callVU hC hR lk_X11_143 (c_M_looks σ p1) dX11_value_21 recX11 rfl rfl ⟨by decide, by decide⟩ (Nat.le_of_ble_eq_true rfl) ⟨Nat.le_refl 0, Nat.le_refl 0⟩ (fun r3 r3s _ => ?_)
      refine at_aload_n (j := 0) hC rfl rfl dX11_value_24 ?_
      refine at_iload_n (j := 1) hC rfl rfl dX11_value_25 ?_
      refine at_callVJ hC hR lk_X11_426 (c_M_chestBehind r3s p0) dX11_value_26 recX11 rfl rfl ⟨by decide, by decide⟩ (Nat.le_of_ble_eq_true rfl) ⟨Nat.le_refl 0, Nat.le_refl 0⟩ (fun r4 r4s _ => ?_)
      refine at_lstore_n (lv' := [(3, .long r4), (0, .ref 0), (1, .int p0), (2, .int p1)]) hC rfl dX11_value_29 (by decide) rfl ?_
      refine at_bipush hC bi_100 dX11_value_30 ?_
      refine at_iload_n (j := 2) hC rfl rfl dX11_value_32 ?_
      refine at_imul hC dX11_value_33 ?_
      refine at_bipush hC bi_99 dX11_value_34 ?_
      refine at_iadd hC dX11_value_36 ?_
      refine at_istore (lv' := [(5, .int ((100 * p0) + 99)), (3, .long r4), (0, .ref 0), (1, .int p0), (2, .int p1)]) hC dX11_value_37 (by decide) rfl ?_
      refine at_iconst hC ic_0 dX11_value_39 ?_
      refine at_istore (lv' := [(6, .int 0), (5, .int ((100 * p0) + 99)), (3, .long r4), (0, .ref 0), (1, .int p0), (2, .int p1)]) hC dX11_value_40 (by decide) rfl ?_
      refine at_drop (lv' := [(0, .ref 0), (3, .long r4), (5, .int ((100 * p0) + 99)), (6, .int 0)]) [3, 2, 1, 0] rfl ?_
      exact t_M_value_L42 hC hR 100000 r4s r4 ((100 * p0) + 99) 0
    · refine at_ldc2 hC kl_X11_382 dX11_value_15 ?_
      exact at_lret (F := eqA ad) (ra := rJ) hC dX11_value_18 rfl (Nat.le_refl 0) (Nat.le_refl 0) rfl
end G
