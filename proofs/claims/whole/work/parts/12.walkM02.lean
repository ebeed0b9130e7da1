section G
variable {z : ZZ} {x : XX} {ad : Nat → Nat} {τ : XS}
theorem dX11_wedTo_0 : decode cX11_wedTo 0 = .ok (.aload_n 0, 1) := by decide +kernel
theorem dX11_wedTo_1 : decode cX11_wedTo 1 = .ok (.iload_n 1, 1) := by decide +kernel
theorem dX11_wedTo_2 : decode cX11_wedTo 2 = .ok (.iload_n 2, 1) := by decide +kernel
theorem dX11_wedTo_3 : decode cX11_wedTo 3 = .ok (.invokevirtual 151, 3) := by decide +kernel
theorem dX11_wedTo_6 : decode cX11_wedTo 6 = .ok (.istore_n 3, 1) := by decide +kernel
theorem dX11_wedTo_7 : decode cX11_wedTo 7 = .ok (.iload_n 3, 1) := by decide +kernel
theorem dX11_wedTo_8 : decode cX11_wedTo 8 = .ok (.iconst (-1), 1) := by decide +kernel
theorem dX11_wedTo_9 : decode cX11_wedTo 9 = .ok (.if_icmp .eq 12, 3) := by decide +kernel
theorem dX11_wedTo_12 : decode cX11_wedTo 12 = .ok (.aload_n 0, 1) := by decide +kernel
theorem dX11_wedTo_13 : decode cX11_wedTo 13 = .ok (.iload_n 1, 1) := by decide +kernel
theorem dX11_wedTo_14 : decode cX11_wedTo 14 = .ok (.iload_n 2, 1) := by decide +kernel
theorem dX11_wedTo_15 : decode cX11_wedTo 15 = .ok (.invokevirtual 147, 3) := by decide +kernel
theorem dX11_wedTo_18 : decode cX11_wedTo 18 = .ok (.ifCond .ne 5, 3) := by decide +kernel
theorem dX11_wedTo_21 : decode cX11_wedTo 21 = .ok (.iconst (-1), 1) := by decide +kernel
theorem dX11_wedTo_22 : decode cX11_wedTo 22 = .ok (.ireturn, 1) := by decide +kernel
theorem dX11_wedTo_23 : decode cX11_wedTo 23 = .ok (.aload_n 0, 1) := by decide +kernel
theorem dX11_wedTo_24 : decode cX11_wedTo 24 = .ok (.iload_n 3, 1) := by decide +kernel
theorem dX11_wedTo_25 : decode cX11_wedTo 25 = .ok (.iload_n 1, 1) := by decide +kernel
theorem dX11_wedTo_26 : decode cX11_wedTo 26 = .ok (.invokevirtual 155, 3) := by decide +kernel
theorem dX11_wedTo_29 : decode cX11_wedTo 29 = .ok (.istore 4, 2) := by decide +kernel
theorem dX11_wedTo_31 : decode cX11_wedTo 31 = .ok (.aload_n 0, 1) := by decide +kernel
theorem dX11_wedTo_32 : decode cX11_wedTo 32 = .ok (.iload 4, 2) := by decide +kernel
theorem dX11_wedTo_34 : decode cX11_wedTo 34 = .ok (.iload_n 2, 1) := by decide +kernel
theorem dX11_wedTo_35 : decode cX11_wedTo 35 = .ok (.invokevirtual 147, 3) := by decide +kernel
theorem dX11_wedTo_38 : decode cX11_wedTo 38 = .ok (.ifCond .eq 8, 3) := by decide +kernel
theorem dX11_wedTo_41 : decode cX11_wedTo 41 = .ok (.iload 4, 2) := by decide +kernel
theorem dX11_wedTo_43 : decode cX11_wedTo 43 = .ok (.goto 4, 3) := by decide +kernel
theorem dX11_wedTo_46 : decode cX11_wedTo 46 = .ok (.iconst (-1), 1) := by decide +kernel
theorem dX11_wedTo_47 : decode cX11_wedTo 47 = .ok (.ireturn, 1) := by decide +kernel
set_option maxRecDepth 100000 in
theorem c_M_wedTo (σ : MS) (p0 : Int32) (p1 : Int32) : Ct z (wM z τ) rI eqA yX11_wedTo cX11_wedTo 5 (some .int) 2 0 0 [.ref 0, .int p0, .int p1] σ ((M_wedTo σ p0 p1).map fun r => (r, σ)) := by
  refine Ct.of (by decide) (Nat.le_of_ble_eq_true rfl) (fun ad x hC hR _ => ?_)
  show AT z x 5 (wM z τ) rI (eqA ad) 0 0 0 0 ad 0 [(0, .ref 0), (1, .int p0), (2, .int p1)] [] σ ((M_wedTo σ p0 p1).map fun r => (r, σ))
  unfold M_wedTo
  refine at_aload_n (j := 0) hC rfl rfl dX11_wedTo_0 ?_
  refine at_iload_n (j := 1) hC rfl rfl dX11_wedTo_1 ?_
  refine at_iload_n (j := 2) hC rfl rfl dX11_wedTo_2 ?_
  refine ap_callVI hC hR lk_X11_151 (c_M_lastWedding σ p0 p1) dX11_wedTo_3 recX11 rfl rfl ⟨by decide, by decide⟩ (Nat.le_of_ble_eq_true rfl) ⟨Nat.le_refl 0, Nat.le_refl 0⟩ (fun r1 _ => ?_)
  refine at_istore_n (lv' := [(3, .int r1), (0, .ref 0), (1, .int p0), (2, .int p1)]) hC rfl dX11_wedTo_6 (by decide) rfl ?_
  refine at_iload_n (j := 0) hC rfl rfl dX11_wedTo_7 ?_
  refine at_iconst hC ic_m1 dX11_wedTo_8 ?_
  refine ap_icmp_eq (tgt := 21) hC dX11_wedTo_9 rfl (fun _ => ?_) (fun _ => ?_)
  · refine at_iconst hC ic_m1 dX11_wedTo_21 ?_
    exact at_iret (F := eqA ad) (ra := rI) hC dX11_wedTo_22 rfl (Nat.le_refl 0) (Nat.le_refl 0) rfl
  · refine at_aload_n (j := 1) hC rfl rfl dX11_wedTo_12 ?_
    refine at_iload_n (j := 2) hC rfl rfl dX11_wedTo_13 ?_
    refine at_iload_n (j := 3) hC rfl rfl dX11_wedTo_14 ?_
    refine ap_callVI hC hR lk_X11_147 (c_M_lives σ p0 p1) dX11_wedTo_15 recX11 rfl rfl ⟨by decide, by decide⟩ (Nat.le_of_ble_eq_true rfl) ⟨Nat.le_refl 0, Nat.le_refl 0⟩ (fun r2 _ => ?_)
    refine ap_if_ne (tgt := 23) hC dX11_wedTo_18 rfl (fun _ => ?_) (fun _ => ?_)
    · refine at_aload_n (j := 1) hC rfl rfl dX11_wedTo_23 ?_
      refine at_iload_n (j := 0) hC rfl rfl dX11_wedTo_24 ?_
      refine at_iload_n (j := 2) hC rfl rfl dX11_wedTo_25 ?_
      refine ap_callVI hC hR lk_X11_155 (c_M_mateIn σ r1 p0) dX11_wedTo_26 recX11 rfl rfl ⟨by decide, by decide⟩ (Nat.le_of_ble_eq_true rfl) ⟨Nat.le_refl 0, Nat.le_refl 0⟩ (fun r3 _ => ?_)
      refine at_istore (lv' := [(4, .int r3), (3, .int r1), (0, .ref 0), (1, .int p0), (2, .int p1)]) hC dX11_wedTo_29 (by decide) rfl ?_
      refine at_aload_n (j := 2) hC rfl rfl dX11_wedTo_31 ?_
      refine at_iload (j := 0) hC rfl dX11_wedTo_32 ?_
      refine at_iload_n (j := 4) hC rfl rfl dX11_wedTo_34 ?_
      refine ap_callVI hC hR lk_X11_147 (c_M_lives σ r3 p1) dX11_wedTo_35 recX11 rfl rfl ⟨by decide, by decide⟩ (Nat.le_of_ble_eq_true rfl) ⟨Nat.le_refl 0, Nat.le_refl 0⟩ (fun r4 _ => ?_)
      refine ap_if_eq (tgt := 46) hC dX11_wedTo_38 rfl (fun _ => ?_) (fun _ => ?_)
      · refine at_iconst hC ic_m1 dX11_wedTo_46 ?_
        exact at_iret (F := eqA ad) (ra := rI) hC dX11_wedTo_47 rfl (Nat.le_refl 0) (Nat.le_refl 0) rfl
      · refine at_iload (j := 0) hC rfl dX11_wedTo_41 ?_
        refine at_goto (tgt := 47) hC dX11_wedTo_43 rfl ?_
        exact at_iret (F := eqA ad) (ra := rI) hC dX11_wedTo_47 rfl (Nat.le_refl 0) (Nat.le_refl 0) rfl
    · refine at_iconst hC ic_m1 dX11_wedTo_21 ?_
      exact at_iret (F := eqA ad) (ra := rI) hC dX11_wedTo_22 rfl (Nat.le_refl 0) (Nat.le_refl 0) rfl
theorem dX11_lastOf_0 : decode cX11_lastOf 0 = .ok (.iconst (-1), 1) := by decide +kernel
theorem dX11_lastOf_1 : decode cX11_lastOf 1 = .ok (.istore 4, 2) := by decide +kernel
theorem dX11_lastOf_3 : decode cX11_lastOf 3 = .ok (.iconst 0, 1) := by decide +kernel
theorem dX11_lastOf_4 : decode cX11_lastOf 4 = .ok (.istore 5, 2) := by decide +kernel
theorem dX11_lastOf_6 : decode cX11_lastOf 6 = .ok (.iload 5, 2) := by decide +kernel
theorem dX11_lastOf_8 : decode cX11_lastOf 8 = .ok (.aload_n 0, 1) := by decide +kernel
theorem dX11_lastOf_9 : decode cX11_lastOf 9 = .ok (.getfield 140, 3) := by decide +kernel
theorem dX11_lastOf_12 : decode cX11_lastOf 12 = .ok (.if_icmp .ge 111, 3) := by decide +kernel
theorem dX11_lastOf_15 : decode cX11_lastOf 15 = .ok (.aload_n 0, 1) := by decide +kernel
theorem dX11_lastOf_16 : decode cX11_lastOf 16 = .ok (.getfield 111, 3) := by decide +kernel
theorem dX11_lastOf_19 : decode cX11_lastOf 19 = .ok (.iload 5, 2) := by decide +kernel
theorem dX11_lastOf_21 : decode cX11_lastOf 21 = .ok (.baload, 1) := by decide +kernel
theorem dX11_lastOf_22 : decode cX11_lastOf 22 = .ok (.ifCond .eq 55, 3) := by decide +kernel
theorem dX11_lastOf_25 : decode cX11_lastOf 25 = .ok (.iload_n 2, 1) := by decide +kernel
theorem dX11_lastOf_26 : decode cX11_lastOf 26 = .ok (.aload_n 0, 1) := by decide +kernel
theorem dX11_lastOf_27 : decode cX11_lastOf 27 = .ok (.getfield 24, 3) := by decide +kernel
theorem dX11_lastOf_30 : decode cX11_lastOf 30 = .ok (.iload 5, 2) := by decide +kernel
theorem dX11_lastOf_32 : decode cX11_lastOf 32 = .ok (.iaload, 1) := by decide +kernel
theorem dX11_lastOf_33 : decode cX11_lastOf 33 = .ok (.ishr, 1) := by decide +kernel
theorem dX11_lastOf_34 : decode cX11_lastOf 34 = .ok (.iconst 1, 1) := by decide +kernel
theorem dX11_lastOf_35 : decode cX11_lastOf 35 = .ok (.iand, 1) := by decide +kernel
theorem dX11_lastOf_36 : decode cX11_lastOf 36 = .ok (.iconst 1, 1) := by decide +kernel
theorem dX11_lastOf_37 : decode cX11_lastOf 37 = .ok (.if_icmp .ne 40, 3) := by decide +kernel
theorem dX11_lastOf_40 : decode cX11_lastOf 40 = .ok (.aload_n 0, 1) := by decide +kernel
theorem dX11_lastOf_41 : decode cX11_lastOf 41 = .ok (.getfield 24, 3) := by decide +kernel
theorem dX11_lastOf_44 : decode cX11_lastOf 44 = .ok (.iload 5, 2) := by decide +kernel
theorem dX11_lastOf_46 : decode cX11_lastOf 46 = .ok (.iaload, 1) := by decide +kernel
theorem dX11_lastOf_47 : decode cX11_lastOf 47 = .ok (.iconst 1, 1) := by decide +kernel
theorem dX11_lastOf_48 : decode cX11_lastOf 48 = .ok (.if_icmp .eq 29, 3) := by decide +kernel
theorem dX11_lastOf_51 : decode cX11_lastOf 51 = .ok (.aload_n 0, 1) := by decide +kernel
theorem dX11_lastOf_52 : decode cX11_lastOf 52 = .ok (.getfield 27, 3) := by decide +kernel
theorem dX11_lastOf_55 : decode cX11_lastOf 55 = .ok (.iload 5, 2) := by decide +kernel
theorem dX11_lastOf_57 : decode cX11_lastOf 57 = .ok (.iaload, 1) := by decide +kernel
theorem dX11_lastOf_58 : decode cX11_lastOf 58 = .ok (.iload_n 1, 1) := by decide +kernel
theorem dX11_lastOf_59 : decode cX11_lastOf 59 = .ok (.if_icmp .ne 18, 3) := by decide +kernel
theorem dX11_lastOf_62 : decode cX11_lastOf 62 = .ok (.aload_n 0, 1) := by decide +kernel
theorem dX11_lastOf_63 : decode cX11_lastOf 63 = .ok (.getfield 33, 3) := by decide +kernel
theorem dX11_lastOf_66 : decode cX11_lastOf 66 = .ok (.iload 5, 2) := by decide +kernel
theorem dX11_lastOf_68 : decode cX11_lastOf 68 = .ok (.iaload, 1) := by decide +kernel
theorem dX11_lastOf_69 : decode cX11_lastOf 69 = .ok (.iload_n 3, 1) := by decide +kernel
theorem dX11_lastOf_70 : decode cX11_lastOf 70 = .ok (.if_icmp .gt 7, 3) := by decide +kernel
theorem dX11_lastOf_73 : decode cX11_lastOf 73 = .ok (.iconst 1, 1) := by decide +kernel
theorem dX11_lastOf_74 : decode cX11_lastOf 74 = .ok (.goto 4, 3) := by decide +kernel
theorem dX11_lastOf_77 : decode cX11_lastOf 77 = .ok (.iconst 0, 1) := by decide +kernel
theorem dX11_lastOf_78 : decode cX11_lastOf 78 = .ok (.istore 6, 2) := by decide +kernel
theorem dX11_lastOf_80 : decode cX11_lastOf 80 = .ok (.iload 6, 2) := by decide +kernel
theorem dX11_lastOf_82 : decode cX11_lastOf 82 = .ok (.ifCond .eq 31, 3) := by decide +kernel
theorem dX11_lastOf_85 : decode cX11_lastOf 85 = .ok (.iload 4, 2) := by decide +kernel
theorem dX11_lastOf_87 : decode cX11_lastOf 87 = .ok (.iconst (-1), 1) := by decide +kernel
theorem dX11_lastOf_88 : decode cX11_lastOf 88 = .ok (.if_icmp .eq 20, 3) := by decide +kernel
theorem dX11_lastOf_91 : decode cX11_lastOf 91 = .ok (.aload_n 0, 1) := by decide +kernel
theorem dX11_lastOf_92 : decode cX11_lastOf 92 = .ok (.getfield 33, 3) := by decide +kernel
theorem dX11_lastOf_95 : decode cX11_lastOf 95 = .ok (.iload 5, 2) := by decide +kernel
theorem dX11_lastOf_97 : decode cX11_lastOf 97 = .ok (.iaload, 1) := by decide +kernel
theorem dX11_lastOf_98 : decode cX11_lastOf 98 = .ok (.aload_n 0, 1) := by decide +kernel
theorem dX11_lastOf_99 : decode cX11_lastOf 99 = .ok (.getfield 33, 3) := by decide +kernel
theorem dX11_lastOf_102 : decode cX11_lastOf 102 = .ok (.iload 4, 2) := by decide +kernel
theorem dX11_lastOf_104 : decode cX11_lastOf 104 = .ok (.iaload, 1) := by decide +kernel
theorem dX11_lastOf_105 : decode cX11_lastOf 105 = .ok (.if_icmp .lt 8, 3) := by decide +kernel
theorem dX11_lastOf_108 : decode cX11_lastOf 108 = .ok (.iload 5, 2) := by decide +kernel
theorem dX11_lastOf_110 : decode cX11_lastOf 110 = .ok (.goto 5, 3) := by decide +kernel
theorem dX11_lastOf_113 : decode cX11_lastOf 113 = .ok (.iload 4, 2) := by decide +kernel
theorem dX11_lastOf_115 : decode cX11_lastOf 115 = .ok (.istore 4, 2) := by decide +kernel
theorem dX11_lastOf_117 : decode cX11_lastOf 117 = .ok (.iinc 5 1, 3) := by decide +kernel
theorem dX11_lastOf_120 : decode cX11_lastOf 120 = .ok (.goto (-114), 3) := by decide +kernel
theorem dX11_lastOf_123 : decode cX11_lastOf 123 = .ok (.iload 4, 2) := by decide +kernel
theorem dX11_lastOf_125 : decode cX11_lastOf 125 = .ok (.ireturn, 1) := by decide +kernel
set_option maxRecDepth 100000 in
theorem t_M_lastOf_J115 (hC : CX z ad x cX11_lastOf RX11 7 (some .int)) (hR : x.2.2.1 = rmk 1 0 0) (σ : MS) (k_6 : Int32 → Int32 → Int32 → Int32 → Int32 → Option Int32) (hk_6 : ∀ (a1 : Int32) (a2 : Int32) (a3 : Int32) (a4 : Int32) (a5 : Int32), AT z x 7 (wM z τ) rI (eqA ad) 0 0 0 0 ad 6 [(0, .ref 0), (1, .int a1), (2, .int a2), (3, .int a3), (4, .int a4), (5, .int a5)] [] σ ((k_6 a1 a2 a3 a4 a5).map fun r => (r, σ))) (a1 : Int32) (a2 : Int32) (a3 : Int32) (a5 : Int32) (s0 : Int32) : AT z x 7 (wM z τ) rI (eqA ad) 0 0 0 0 ad 115 [(0, .ref 0), (1, .int a1), (2, .int a2), (3, .int a3), (5, .int a5)] [.int s0] σ ((M_lastOf_J115 k_6 σ a1 a2 a3 a5 s0).map fun r => (r, σ)) := by
  unfold M_lastOf_J115
  refine at_istore (lv' := [(4, .int s0), (0, .ref 0), (1, .int a1), (2, .int a2), (3, .int a3), (5, .int a5)]) hC dX11_lastOf_115 (by decide) rfl ?_
  refine at_iinc (j := 5) (v := a5 + 1) (lv' := [(5, .int (a5 + 1)), (4, .int s0), (0, .ref 0), (1, .int a1), (2, .int a2), (3, .int a3)]) hC dX11_lastOf_117 rfl rfl (by decide) rfl ?_
  refine at_goto (tgt := 6) hC dX11_lastOf_120 rfl ?_
  refine at_drop (lv' := [(0, .ref 0), (1, .int a1), (2, .int a2), (3, .int a3), (4, .int s0), (5, .int (a5 + 1))]) [2, 3, 4, 5, 1, 0] rfl ?_
  exact hk_6 a1 a2 a3 s0 (a5 + 1)
set_option maxRecDepth 100000 in
theorem t_M_lastOf_J113 (hC : CX z ad x cX11_lastOf RX11 7 (some .int)) (hR : x.2.2.1 = rmk 1 0 0) (σ : MS) (k_6 : Int32 → Int32 → Int32 → Int32 → Int32 → Option Int32) (hk_6 : ∀ (a1 : Int32) (a2 : Int32) (a3 : Int32) (a4 : Int32) (a5 : Int32), AT z x 7 (wM z τ) rI (eqA ad) 0 0 0 0 ad 6 [(0, .ref 0), (1, .int a1), (2, .int a2), (3, .int a3), (4, .int a4), (5, .int a5)] [] σ ((k_6 a1 a2 a3 a4 a5).map fun r => (r, σ))) (a1 : Int32) (a2 : Int32) (a3 : Int32) (a4 : Int32) (a5 : Int32) : AT z x 7 (wM z τ) rI (eqA ad) 0 0 0 0 ad 113 [(0, .ref 0), (1, .int a1), (2, .int a2), (3, .int a3), (4, .int a4), (5, .int a5)] [] σ ((M_lastOf_J113 k_6 σ a1 a2 a3 a4 a5).map fun r => (r, σ)) := by
  unfold M_lastOf_J113
  refine at_iload (j := 4) hC rfl dX11_lastOf_113 ?_
  refine at_drop (lv' := [(0, .ref 0), (1, .int a1), (2, .int a2), (3, .int a3), (5, .int a5)]) [0, 1, 2, 3, 5] rfl ?_
  exact t_M_lastOf_J115 hC hR σ k_6 hk_6 a1 a2 a3 a5 a4
set_option maxRecDepth 100000 in
theorem t_M_lastOf_J108 (hC : CX z ad x cX11_lastOf RX11 7 (some .int)) (hR : x.2.2.1 = rmk 1 0 0) (σ : MS) (k_6 : Int32 → Int32 → Int32 → Int32 → Int32 → Option Int32) (hk_6 : ∀ (a1 : Int32) (a2 : Int32) (a3 : Int32) (a4 : Int32) (a5 : Int32), AT z x 7 (wM z τ) rI (eqA ad) 0 0 0 0 ad 6 [(0, .ref 0), (1, .int a1), (2, .int a2), (3, .int a3), (4, .int a4), (5, .int a5)] [] σ ((k_6 a1 a2 a3 a4 a5).map fun r => (r, σ))) (a1 : Int32) (a2 : Int32) (a3 : Int32) (a5 : Int32) : AT z x 7 (wM z τ) rI (eqA ad) 0 0 0 0 ad 108 [(0, .ref 0), (1, .int a1), (2, .int a2), (3, .int a3), (5, .int a5)] [] σ ((M_lastOf_J108 k_6 σ a1 a2 a3 a5).map fun r => (r, σ)) := by
  unfold M_lastOf_J108
  refine at_iload (j := 4) hC rfl dX11_lastOf_108 ?_
  refine at_goto (tgt := 115) hC dX11_lastOf_110 rfl ?_
  exact t_M_lastOf_J115 hC hR σ k_6 hk_6 a1 a2 a3 a5 a5
set_option maxRecDepth 100000 in
theorem t_M_lastOf_J78 (hC : CX z ad x cX11_lastOf RX11 7 (some .int)) (hR : x.2.2.1 = rmk 1 0 0) (σ : MS) (k_6 : Int32 → Int32 → Int32 → Int32 → Int32 → Option Int32) (hk_6 : ∀ (a1 : Int32) (a2 : Int32) (a3 : Int32) (a4 : Int32) (a5 : Int32), AT z x 7 (wM z τ) rI (eqA ad) 0 0 0 0 ad 6 [(0, .ref 0), (1, .int a1), (2, .int a2), (3, .int a3), (4, .int a4), (5, .int a5)] [] σ ((k_6 a1 a2 a3 a4 a5).map fun r => (r, σ))) (a1 : Int32) (a2 : Int32) (a3 : Int32) (a4 : Int32) (a5 : Int32) (s0 : Int32) : AT z x 7 (wM z τ) rI (eqA ad) 0 0 0 0 ad 78 [(0, .ref 0), (1, .int a1), (2, .int a2), (3, .int a3), (4, .int a4), (5, .int a5)] [.int s0] σ ((M_lastOf_J78 k_6 σ a1 a2 a3 a4 a5 s0).map fun r => (r, σ)) := by
  unfold M_lastOf_J78
  refine at_istore (lv' := [(6, .int s0), (0, .ref 0), (1, .int a1), (2, .int a2), (3, .int a3), (4, .int a4), (5, .int a5)]) hC dX11_lastOf_78 (by decide) rfl ?_
  refine at_iload (j := 0) hC rfl dX11_lastOf_80 ?_
  refine ap_if_eq (tgt := 113) hC dX11_lastOf_82 rfl (fun _ => ?_) (fun _ => ?_)
  · refine at_drop (lv' := [(0, .ref 0), (1, .int a1), (2, .int a2), (3, .int a3), (4, .int a4), (5, .int a5)]) [1, 2, 3, 4, 5, 6] rfl ?_
    exact t_M_lastOf_J113 hC hR σ k_6 hk_6 a1 a2 a3 a4 a5
  · refine at_iload (j := 5) hC rfl dX11_lastOf_85 ?_
    refine at_iconst hC ic_m1 dX11_lastOf_87 ?_
    refine ap_icmp_eq (tgt := 108) hC dX11_lastOf_88 rfl (fun _ => ?_) (fun _ => ?_)
    · refine at_drop (lv' := [(0, .ref 0), (1, .int a1), (2, .int a2), (3, .int a3), (5, .int a5)]) [1, 2, 3, 4, 6] rfl ?_
      exact t_M_lastOf_J108 hC hR σ k_6 hk_6 a1 a2 a3 a5
    · refine at_aload_n (j := 1) hC rfl rfl dX11_lastOf_91 ?_
      refine gf_X11_33 hC dX11_lastOf_92 ?_
      refine at_iload (j := 6) hC rfl dX11_lastOf_95 ?_
      refine ap_iald hC 8 dX11_lastOf_97 cl_8 (fun v2 => ?_)
      refine at_aload_n (j := 1) hC rfl rfl dX11_lastOf_98 ?_
      refine gf_X11_33 hC dX11_lastOf_99 ?_
      refine at_iload (j := 5) hC rfl dX11_lastOf_102 ?_
      refine ap_iald hC 8 dX11_lastOf_104 cl_8 (fun v3 => ?_)
      refine ap_icmp_lt (tgt := 113) hC dX11_lastOf_105 rfl (fun _ => ?_) (fun _ => ?_)
      · refine at_drop (lv' := [(0, .ref 0), (1, .int a1), (2, .int a2), (3, .int a3), (4, .int a4), (5, .int a5)]) [1, 2, 3, 4, 5, 6] rfl ?_
        exact t_M_lastOf_J113 hC hR σ k_6 hk_6 a1 a2 a3 a4 a5
      · refine at_drop (lv' := [(0, .ref 0), (1, .int a1), (2, .int a2), (3, .int a3), (5, .int a5)]) [1, 2, 3, 4, 6] rfl ?_
        exact t_M_lastOf_J108 hC hR σ k_6 hk_6 a1 a2 a3 a5
set_option maxRecDepth 100000 in
theorem t_M_lastOf_J77 (hC : CX z ad x cX11_lastOf RX11 7 (some .int)) (hR : x.2.2.1 = rmk 1 0 0) (σ : MS) (k_6 : Int32 → Int32 → Int32 → Int32 → Int32 → Option Int32) (hk_6 : ∀ (a1 : Int32) (a2 : Int32) (a3 : Int32) (a4 : Int32) (a5 : Int32), AT z x 7 (wM z τ) rI (eqA ad) 0 0 0 0 ad 6 [(0, .ref 0), (1, .int a1), (2, .int a2), (3, .int a3), (4, .int a4), (5, .int a5)] [] σ ((k_6 a1 a2 a3 a4 a5).map fun r => (r, σ))) (a1 : Int32) (a2 : Int32) (a3 : Int32) (a4 : Int32) (a5 : Int32) : AT z x 7 (wM z τ) rI (eqA ad) 0 0 0 0 ad 77 [(0, .ref 0), (1, .int a1), (2, .int a2), (3, .int a3), (4, .int a4), (5, .int a5)] [] σ ((M_lastOf_J77 k_6 σ a1 a2 a3 a4 a5).map fun r => (r, σ)) := by
  unfold M_lastOf_J77
  refine at_iconst hC ic_0 dX11_lastOf_77 ?_
  exact t_M_lastOf_J78 hC hR σ k_6 hk_6 a1 a2 a3 a4 a5 0
set_option maxRecDepth 100000 in
theorem t_M_lastOf_L6 (hC : CX z ad x cX11_lastOf RX11 7 (some .int)) (hR : x.2.2.1 = rmk 1 0 0) (σ : MS) (n : Nat) (a1 : Int32) (a2 : Int32) (a3 : Int32) (a4 : Int32) (a5 : Int32) : AT z x 7 (wM z τ) rI (eqA ad) 0 0 0 0 ad 6 [(0, .ref 0), (1, .int a1), (2, .int a2), (3, .int a3), (4, .int a4), (5, .int a5)] [] σ ((M_lastOf_L6 n σ a1 a2 a3 a4 a5).map fun r => (r, σ)) := by
  revert a1 a2 a3 a4 a5
  show ∀ (a1 : Int32) (a2 : Int32) (a3 : Int32) (a4 : Int32) (a5 : Int32), AT z x 7 (wM z τ) rI (eqA ad) 0 0 0 0 ad 6 [(0, .ref 0), (1, .int a1), (2, .int a2), (3, .int a3), (4, .int a4), (5, .int a5)] [] σ ((M_lastOf_L6_r σ n a1 a2 a3 a4 a5).map fun r => (r, σ))
  induction n with
  | zero => intro a1 a2 a3 a4 a5; exact ap_none
  | succ n hk_6 =>
    intro a1 a2 a3 a4 a5
    unfold M_lastOf_L6_r
    refine at_iload (j := 5) hC rfl dX11_lastOf_6 ?_
    refine at_aload_n (j := 0) hC rfl rfl dX11_lastOf_8 ?_
    refine gf_X11_140 hC dX11_lastOf_9 ?_
    refine ap_icmp_ge (tgt := 123) hC dX11_lastOf_12 rfl (fun _ => ?_) (fun _ => ?_)
    · refine at_iload (j := 4) hC rfl dX11_lastOf_123 ?_
      exact at_iret (F := eqA ad) (ra := rI) hC dX11_lastOf_125 rfl (Nat.le_refl 0) (Nat.le_refl 0) rfl
    · refine at_aload_n (j := 0) hC rfl rfl dX11_lastOf_15 ?_
      refine gf_X11_111 hC dX11_lastOf_16 ?_
      refine at_iload (j := 5) hC rfl dX11_lastOf_19 ?_
      refine ap_zald hC 32 dX11_lastOf_21 cl_32 (fun v1 => ?_)
      refine ap_if_eq (tgt := 77) hC dX11_lastOf_22 rfl (fun _ => ?_) (fun _ => ?_)
      · exact t_M_lastOf_J77 hC hR σ (M_lastOf_L6_r σ n) hk_6 a1 a2 a3 a4 a5
      · refine at_iload_n (j := 2) hC rfl rfl dX11_lastOf_25 ?_
        refine at_aload_n (j := 0) hC rfl rfl dX11_lastOf_26 ?_
        refine gf_X11_24 hC dX11_lastOf_27 ?_
        refine at_iload (j := 5) hC rfl dX11_lastOf_30 ?_
        refine ap_iald hC 5 dX11_lastOf_32 cl_5 (fun v4 => ?_)
        refine at_ishr hC dX11_lastOf_33 ?_
        refine at_iconst hC ic_1 dX11_lastOf_34 ?_
        refine at_iand hC dX11_lastOf_35 ?_
        refine at_iconst hC ic_1 dX11_lastOf_36 ?_
        refine ap_icmp_ne (tgt := 77) hC dX11_lastOf_37 rfl (fun _ => ?_) (fun _ => ?_)
        · exact t_M_lastOf_J77 hC hR σ (M_lastOf_L6_r σ n) hk_6 a1 a2 a3 a4 a5
        · refine at_aload_n (j := 0) hC rfl rfl dX11_lastOf_40 ?_
          refine gf_X11_24 hC dX11_lastOf_41 ?_
          refine at_iload (j := 5) hC rfl dX11_lastOf_44 ?_
          refine ap_iald hC 5 dX11_lastOf_46 cl_5 (fun v5 => ?_)
          refine at_iconst hC ic_1 dX11_lastOf_47 ?_
          refine ap_icmp_eq (tgt := 77) hC dX11_lastOf_48 rfl (fun _ => ?_) (fun _ => ?_)
          · exact t_M_lastOf_J77 hC hR σ (M_lastOf_L6_r σ n) hk_6 a1 a2 a3 a4 a5
          · refine at_aload_n (j := 0) hC rfl rfl dX11_lastOf_51 ?_
            refine gf_X11_27 hC dX11_lastOf_52 ?_
            refine at_iload (j := 5) hC rfl dX11_lastOf_55 ?_
            refine ap_iald hC 6 dX11_lastOf_57 cl_6 (fun v6 => ?_)
            refine at_iload_n (j := 1) hC rfl rfl dX11_lastOf_58 ?_
            refine ap_icmp_ne (tgt := 77) hC dX11_lastOf_59 rfl (fun _ => ?_) (fun _ => ?_)
            · exact t_M_lastOf_J77 hC hR σ (M_lastOf_L6_r σ n) hk_6 a1 a2 a3 a4 a5
            · refine at_aload_n (j := 0) hC rfl rfl dX11_lastOf_62 ?_
              refine gf_X11_33 hC dX11_lastOf_63 ?_
              refine at_iload (j := 5) hC rfl dX11_lastOf_66 ?_
              refine ap_iald hC 8 dX11_lastOf_68 cl_8 (fun v7 => ?_)
              refine at_iload_n (j := 3) hC rfl rfl dX11_lastOf_69 ?_
              refine ap_icmp_gt (tgt := 77) hC dX11_lastOf_70 rfl (fun _ => ?_) (fun _ => ?_)
              · exact t_M_lastOf_J77 hC hR σ (M_lastOf_L6_r σ n) hk_6 a1 a2 a3 a4 a5
              · refine at_iconst hC ic_1 dX11_lastOf_73 ?_
                refine at_goto (tgt := 78) hC dX11_lastOf_74 rfl ?_
                exact t_M_lastOf_J78 hC hR σ (M_lastOf_L6_r σ n) hk_6 a1 a2 a3 a4 a5 1
set_option maxRecDepth 100000 in
theorem c_M_lastOf (σ : MS) (p0 : Int32) (p1 : Int32) (p2 : Int32) : Ct z (wM z τ) rI eqA yX11_lastOf cX11_lastOf 7 (some .int) 1 0 0 [.ref 0, .int p0, .int p1, .int p2] σ ((M_lastOf σ p0 p1 p2).map fun r => (r, σ)) := by
  refine Ct.of (by decide) (Nat.le_of_ble_eq_true rfl) (fun ad x hC hR _ => ?_)
  show AT z x 7 (wM z τ) rI (eqA ad) 0 0 0 0 ad 0 [(0, .ref 0), (1, .int p0), (2, .int p1), (3, .int p2)] [] σ ((M_lastOf σ p0 p1 p2).map fun r => (r, σ))
  unfold M_lastOf
  refine at_iconst hC ic_m1 dX11_lastOf_0 ?_
  refine at_istore (lv' := [(4, .int (-1)), (0, .ref 0), (1, .int p0), (2, .int p1), (3, .int p2)]) hC dX11_lastOf_1 (by decide) rfl ?_
  refine at_iconst hC ic_0 dX11_lastOf_3 ?_
  refine at_istore (lv' := [(5, .int 0), (4, .int (-1)), (0, .ref 0), (1, .int p0), (2, .int p1), (3, .int p2)]) hC dX11_lastOf_4 (by decide) rfl ?_
  refine at_drop (lv' := [(0, .ref 0), (1, .int p0), (2, .int p1), (3, .int p2), (4, .int (-1)), (5, .int 0)]) [2, 3, 4, 5, 1, 0] rfl ?_
  exact t_M_lastOf_L6 hC hR σ 100000 p0 p1 p2 (-1) 0
theorem dX11_isMember_0 : decode cX11_isMember 0 = .ok (.aload_n 0, 1) := by decide +kernel
theorem dX11_isMember_1 : decode cX11_isMember 1 = .ok (.iload_n 1, 1) := by decide +kernel
theorem dX11_isMember_2 : decode cX11_isMember 2 = .ok (.iload_n 2, 1) := by decide +kernel
theorem dX11_isMember_3 : decode cX11_isMember 3 = .ok (.invokevirtual 147, 3) := by decide +kernel
theorem dX11_isMember_6 : decode cX11_isMember 6 = .ok (.ifCond .eq 14, 3) := by decide +kernel
theorem dX11_isMember_9 : decode cX11_isMember 9 = .ok (.aload_n 0, 1) := by decide +kernel
theorem dX11_isMember_10 : decode cX11_isMember 10 = .ok (.iload_n 1, 1) := by decide +kernel
theorem dX11_isMember_11 : decode cX11_isMember 11 = .ok (.bipush 52, 2) := by decide +kernel
theorem dX11_isMember_13 : decode cX11_isMember 13 = .ok (.iload_n 2, 1) := by decide +kernel
theorem dX11_isMember_14 : decode cX11_isMember 14 = .ok (.invokevirtual 158, 3) := by decide +kernel
theorem dX11_isMember_17 : decode cX11_isMember 17 = .ok (.goto 4, 3) := by decide +kernel
theorem dX11_isMember_20 : decode cX11_isMember 20 = .ok (.iconst (-1), 1) := by decide +kernel
theorem dX11_isMember_21 : decode cX11_isMember 21 = .ok (.istore_n 3, 1) := by decide +kernel
theorem dX11_isMember_22 : decode cX11_isMember 22 = .ok (.iload_n 3, 1) := by decide +kernel
theorem dX11_isMember_23 : decode cX11_isMember 23 = .ok (.iconst (-1), 1) := by decide +kernel
theorem dX11_isMember_24 : decode cX11_isMember 24 = .ok (.if_icmp .eq 28, 3) := by decide +kernel
theorem dX11_isMember_27 : decode cX11_isMember 27 = .ok (.aload_n 0, 1) := by decide +kernel
theorem dX11_isMember_28 : decode cX11_isMember 28 = .ok (.getfield 24, 3) := by decide +kernel
theorem dX11_isMember_31 : decode cX11_isMember 31 = .ok (.iload_n 3, 1) := by decide +kernel
theorem dX11_isMember_32 : decode cX11_isMember 32 = .ok (.iaload, 1) := by decide +kernel
theorem dX11_isMember_33 : decode cX11_isMember 33 = .ok (.iconst 4, 1) := by decide +kernel
theorem dX11_isMember_34 : decode cX11_isMember 34 = .ok (.if_icmp .eq 18, 3) := by decide +kernel
theorem dX11_isMember_37 : decode cX11_isMember 37 = .ok (.aload_n 0, 1) := by decide +kernel
theorem dX11_isMember_38 : decode cX11_isMember 38 = .ok (.iload_n 1, 1) := by decide +kernel
theorem dX11_isMember_39 : decode cX11_isMember 39 = .ok (.iconst 4, 1) := by decide +kernel
theorem dX11_isMember_40 : decode cX11_isMember 40 = .ok (.iload_n 2, 1) := by decide +kernel
theorem dX11_isMember_41 : decode cX11_isMember 41 = .ok (.invokevirtual 158, 3) := by decide +kernel
theorem dX11_isMember_44 : decode cX11_isMember 44 = .ok (.iconst (-1), 1) := by decide +kernel
theorem dX11_isMember_45 : decode cX11_isMember 45 = .ok (.if_icmp .eq 7, 3) := by decide +kernel
theorem dX11_isMember_48 : decode cX11_isMember 48 = .ok (.iconst 1, 1) := by decide +kernel
theorem dX11_isMember_49 : decode cX11_isMember 49 = .ok (.goto 4, 3) := by decide +kernel
theorem dX11_isMember_52 : decode cX11_isMember 52 = .ok (.iconst 0, 1) := by decide +kernel
theorem dX11_isMember_53 : decode cX11_isMember 53 = .ok (.ireturn, 1) := by decide +kernel
set_option maxRecDepth 100000 in
theorem t_M_isMember_J21 (hC : CX z ad x cX11_isMember RX11 4 (some .boolean)) (hR : x.2.2.1 = rmk 2 0 0) (σ : MS) (a1 : Int32) (a2 : Int32) (s0 : Int32) : AT z x 4 (wM z τ) rI (eqA ad) 0 0 0 0 ad 21 [(0, .ref 0), (1, .int a1), (2, .int a2)] [.int s0] σ ((M_isMember_J21 σ a1 a2 s0).map fun r => (r, σ)) := by
  unfold M_isMember_J21
  refine at_istore_n (lv' := [(3, .int s0), (0, .ref 0), (1, .int a1), (2, .int a2)]) hC rfl dX11_isMember_21 (by decide) rfl ?_
  refine at_iload_n (j := 0) hC rfl rfl dX11_isMember_22 ?_
  refine at_iconst hC ic_m1 dX11_isMember_23 ?_
  refine ap_icmp_eq (tgt := 52) hC dX11_isMember_24 rfl (fun _ => ?_) (fun _ => ?_)
  · refine at_iconst hC ic_0 dX11_isMember_52 ?_
    exact at_zret (F := eqA ad) (ra := rI) hC nb0 dX11_isMember_53 rfl (Nat.le_refl 0) (Nat.le_refl 0) rfl
  · refine at_aload_n (j := 1) hC rfl rfl dX11_isMember_27 ?_
    refine gf_X11_24 hC dX11_isMember_28 ?_
    refine at_iload_n (j := 0) hC rfl rfl dX11_isMember_31 ?_
    refine ap_iald hC 5 dX11_isMember_32 cl_5 (fun v2 => ?_)
    refine at_iconst hC ic_4 dX11_isMember_33 ?_
    refine ap_icmp_eq (tgt := 52) hC dX11_isMember_34 rfl (fun _ => ?_) (fun _ => ?_)
    · refine at_iconst hC ic_0 dX11_isMember_52 ?_
      exact at_zret (F := eqA ad) (ra := rI) hC nb0 dX11_isMember_53 rfl (Nat.le_refl 0) (Nat.le_refl 0) rfl
    · refine at_aload_n (j := 1) hC rfl rfl dX11_isMember_37 ?_
      refine at_iload_n (j := 2) hC rfl rfl dX11_isMember_38 ?_
      refine at_iconst hC ic_4 dX11_isMember_39 ?_
      refine at_iload_n (j := 3) hC rfl rfl dX11_isMember_40 ?_
      refine ap_callVI hC hR lk_X11_158 (c_M_lastOf σ a1 4 a2) dX11_isMember_41 recX11 rfl rfl ⟨by decide, by decide⟩ (Nat.le_of_ble_eq_true rfl) ⟨Nat.le_refl 0, Nat.le_refl 0⟩ (fun r3 _ => ?_)
      refine at_iconst hC ic_m1 dX11_isMember_44 ?_
      refine ap_icmp_eq (tgt := 52) hC dX11_isMember_45 rfl (fun _ => ?_) (fun _ => ?_)
      · refine at_iconst hC ic_0 dX11_isMember_52 ?_
        exact at_zret (F := eqA ad) (ra := rI) hC nb0 dX11_isMember_53 rfl (Nat.le_refl 0) (Nat.le_refl 0) rfl
      · refine at_iconst hC ic_1 dX11_isMember_48 ?_
        refine at_goto (tgt := 53) hC dX11_isMember_49 rfl ?_
        exact at_zret (F := eqA ad) (ra := rI) hC nb1 dX11_isMember_53 rfl (Nat.le_refl 0) (Nat.le_refl 0) rfl
set_option maxRecDepth 100000 in
theorem c_M_isMember (σ : MS) (p0 : Int32) (p1 : Int32) : Ct z (wM z τ) rI eqA yX11_isMember cX11_isMember 4 (some .boolean) 2 0 0 [.ref 0, .int p0, .int p1] σ ((M_isMember σ p0 p1).map fun r => (r, σ)) := by
  refine Ct.of (by decide) (Nat.le_of_ble_eq_true rfl) (fun ad x hC hR _ => ?_)
  show AT z x 4 (wM z τ) rI (eqA ad) 0 0 0 0 ad 0 [(0, .ref 0), (1, .int p0), (2, .int p1)] [] σ ((M_isMember σ p0 p1).map fun r => (r, σ))
  unfold M_isMember
  refine at_aload_n (j := 0) hC rfl rfl dX11_isMember_0 ?_
  refine at_iload_n (j := 1) hC rfl rfl dX11_isMember_1 ?_
  refine at_iload_n (j := 2) hC rfl rfl dX11_isMember_2 ?_
  refine ap_callVI hC hR lk_X11_147 (c_M_lives σ p0 p1) dX11_isMember_3 recX11 rfl rfl ⟨by decide, by decide⟩ (Nat.le_of_ble_eq_true rfl) ⟨Nat.le_refl 0, Nat.le_refl 0⟩ (fun r1 _ => ?_)
  refine ap_if_eq (tgt := 20) hC dX11_isMember_6 rfl (fun _ => ?_) (fun _ => ?_)
  · refine at_iconst hC ic_m1 dX11_isMember_20 ?_
    exact t_M_isMember_J21 hC hR σ p0 p1 (-1)
  · refine at_aload_n (j := 0) hC rfl rfl dX11_isMember_9 ?_
    refine at_iload_n (j := 1) hC rfl rfl dX11_isMember_10 ?_
    refine at_bipush hC bi_52 dX11_isMember_11 ?_
    refine at_iload_n (j := 2) hC rfl rfl dX11_isMember_13 ?_
    refine ap_callVI hC hR lk_X11_158 (c_M_lastOf σ p0 52 p1) dX11_isMember_14 recX11 rfl rfl ⟨by decide, by decide⟩ (Nat.le_of_ble_eq_true rfl) ⟨Nat.le_refl 0, Nat.le_refl 0⟩ (fun r4 _ => ?_)
    refine at_goto (tgt := 21) hC dX11_isMember_17 rfl ?_
    exact t_M_isMember_J21 hC hR σ p0 p1 r4
theorem dX11_isGone_0 : decode cX11_isGone 0 = .ok (.aload_n 0, 1) := by decide +kernel
theorem dX11_isGone_1 : decode cX11_isGone 1 = .ok (.iload_n 1, 1) := by decide +kernel
theorem dX11_isGone_2 : decode cX11_isGone 2 = .ok (.iload_n 2, 1) := by decide +kernel
theorem dX11_isGone_3 : decode cX11_isGone 3 = .ok (.invokevirtual 147, 3) := by decide +kernel
theorem dX11_isGone_6 : decode cX11_isGone 6 = .ok (.ifCond .eq 14, 3) := by decide +kernel
theorem dX11_isGone_9 : decode cX11_isGone 9 = .ok (.aload_n 0, 1) := by decide +kernel
theorem dX11_isGone_10 : decode cX11_isGone 10 = .ok (.iload_n 1, 1) := by decide +kernel
theorem dX11_isGone_11 : decode cX11_isGone 11 = .ok (.bipush 52, 2) := by decide +kernel
theorem dX11_isGone_13 : decode cX11_isGone 13 = .ok (.iload_n 2, 1) := by decide +kernel
theorem dX11_isGone_14 : decode cX11_isGone 14 = .ok (.invokevirtual 158, 3) := by decide +kernel
theorem dX11_isGone_17 : decode cX11_isGone 17 = .ok (.goto 4, 3) := by decide +kernel
theorem dX11_isGone_20 : decode cX11_isGone 20 = .ok (.iconst (-1), 1) := by decide +kernel
theorem dX11_isGone_21 : decode cX11_isGone 21 = .ok (.istore_n 3, 1) := by decide +kernel
theorem dX11_isGone_22 : decode cX11_isGone 22 = .ok (.iload_n 3, 1) := by decide +kernel
theorem dX11_isGone_23 : decode cX11_isGone 23 = .ok (.iconst (-1), 1) := by decide +kernel
theorem dX11_isGone_24 : decode cX11_isGone 24 = .ok (.if_icmp .eq 17, 3) := by decide +kernel
theorem dX11_isGone_27 : decode cX11_isGone 27 = .ok (.aload_n 0, 1) := by decide +kernel
theorem dX11_isGone_28 : decode cX11_isGone 28 = .ok (.getfield 24, 3) := by decide +kernel
theorem dX11_isGone_31 : decode cX11_isGone 31 = .ok (.iload_n 3, 1) := by decide +kernel
theorem dX11_isGone_32 : decode cX11_isGone 32 = .ok (.iaload, 1) := by decide +kernel
theorem dX11_isGone_33 : decode cX11_isGone 33 = .ok (.iconst 4, 1) := by decide +kernel
theorem dX11_isGone_34 : decode cX11_isGone 34 = .ok (.if_icmp .ne 7, 3) := by decide +kernel
theorem dX11_isGone_37 : decode cX11_isGone 37 = .ok (.iconst 1, 1) := by decide +kernel
theorem dX11_isGone_38 : decode cX11_isGone 38 = .ok (.goto 4, 3) := by decide +kernel
theorem dX11_isGone_41 : decode cX11_isGone 41 = .ok (.iconst 0, 1) := by decide +kernel
theorem dX11_isGone_42 : decode cX11_isGone 42 = .ok (.ireturn, 1) := by decide +kernel
set_option maxRecDepth 100000 in
theorem t_M_isGone_J21 (hC : CX z ad x cX11_isGone RX11 4 (some .boolean)) (hR : x.2.2.1 = rmk 2 0 0) (σ : MS) (s0 : Int32) : AT z x 4 (wM z τ) rI (eqA ad) 0 0 0 0 ad 21 [(0, .ref 0)] [.int s0] σ ((M_isGone_J21 σ s0).map fun r => (r, σ)) := by
  unfold M_isGone_J21
  refine at_istore_n (lv' := [(3, .int s0), (0, .ref 0)]) hC rfl dX11_isGone_21 (by decide) rfl ?_
  refine at_iload_n (j := 0) hC rfl rfl dX11_isGone_22 ?_
  refine at_iconst hC ic_m1 dX11_isGone_23 ?_
  refine ap_icmp_eq (tgt := 41) hC dX11_isGone_24 rfl (fun _ => ?_) (fun _ => ?_)
  · refine at_iconst hC ic_0 dX11_isGone_41 ?_
    exact at_zret (F := eqA ad) (ra := rI) hC nb0 dX11_isGone_42 rfl (Nat.le_refl 0) (Nat.le_refl 0) rfl
  · refine at_aload_n (j := 1) hC rfl rfl dX11_isGone_27 ?_
    refine gf_X11_24 hC dX11_isGone_28 ?_
    refine at_iload_n (j := 0) hC rfl rfl dX11_isGone_31 ?_
    refine ap_iald hC 5 dX11_isGone_32 cl_5 (fun v2 => ?_)
    refine at_iconst hC ic_4 dX11_isGone_33 ?_
    refine ap_icmp_ne (tgt := 41) hC dX11_isGone_34 rfl (fun _ => ?_) (fun _ => ?_)
    · refine at_iconst hC ic_0 dX11_isGone_41 ?_
      exact at_zret (F := eqA ad) (ra := rI) hC nb0 dX11_isGone_42 rfl (Nat.le_refl 0) (Nat.le_refl 0) rfl
    · refine at_iconst hC ic_1 dX11_isGone_37 ?_
      refine at_goto (tgt := 42) hC dX11_isGone_38 rfl ?_
      exact at_zret (F := eqA ad) (ra := rI) hC nb1 dX11_isGone_42 rfl (Nat.le_refl 0) (Nat.le_refl 0) rfl
set_option maxRecDepth 100000 in
theorem c_M_isGone (σ : MS) (p0 : Int32) (p1 : Int32) : Ct z (wM z τ) rI eqA yX11_isGone cX11_isGone 4 (some .boolean) 2 0 0 [.ref 0, .int p0, .int p1] σ ((M_isGone σ p0 p1).map fun r => (r, σ)) := by
  refine Ct.of (by decide) (Nat.le_of_ble_eq_true rfl) (fun ad x hC hR _ => ?_)
  show AT z x 4 (wM z τ) rI (eqA ad) 0 0 0 0 ad 0 [(0, .ref 0), (1, .int p0), (2, .int p1)] [] σ ((M_isGone σ p0 p1).map fun r => (r, σ))
  unfold M_isGone
  refine at_aload_n (j := 0) hC rfl rfl dX11_isGone_0 ?_
  refine at_iload_n (j := 1) hC rfl rfl dX11_isGone_1 ?_
  refine at_iload_n (j := 2) hC rfl rfl dX11_isGone_2 ?_
  refine ap_callVI hC hR lk_X11_147 (c_M_lives σ p0 p1) dX11_isGone_3 recX11 rfl rfl ⟨by decide, by decide⟩ (Nat.le_of_ble_eq_true rfl) ⟨Nat.le_refl 0, Nat.le_refl 0⟩ (fun r1 _ => ?_)
  refine ap_if_eq (tgt := 20) hC dX11_isGone_6 rfl (fun _ => ?_) (fun _ => ?_)
  · refine at_iconst hC ic_m1 dX11_isGone_20 ?_
    refine at_drop (lv' := [(0, .ref 0)]) [0] rfl ?_
    exact t_M_isGone_J21 hC hR σ (-1)
  · refine at_aload_n (j := 0) hC rfl rfl dX11_isGone_9 ?_
    refine at_iload_n (j := 1) hC rfl rfl dX11_isGone_10 ?_
    refine at_bipush hC bi_52 dX11_isGone_11 ?_
    refine at_iload_n (j := 2) hC rfl rfl dX11_isGone_13 ?_
    refine ap_callVI hC hR lk_X11_158 (c_M_lastOf σ p0 52 p1) dX11_isGone_14 recX11 rfl rfl ⟨by decide, by decide⟩ (Nat.le_of_ble_eq_true rfl) ⟨Nat.le_refl 0, Nat.le_refl 0⟩ (fun r3 _ => ?_)
    refine at_goto (tgt := 21) hC dX11_isGone_17 rfl ?_
    refine at_drop (lv' := [(0, .ref 0)]) [0] rfl ?_
    exact t_M_isGone_J21 hC hR σ r3
theorem dX11_seatOf_0 : decode cX11_seatOf 0 = .ok (.aload_n 0, 1) := by decide +kernel
theorem dX11_seatOf_1 : decode cX11_seatOf 1 = .ok (.iload_n 1, 1) := by decide +kernel
theorem dX11_seatOf_2 : decode cX11_seatOf 2 = .ok (.iconst 4, 1) := by decide +kernel
theorem dX11_seatOf_3 : decode cX11_seatOf 3 = .ok (.iload_n 2, 1) := by decide +kernel
theorem dX11_seatOf_4 : decode cX11_seatOf 4 = .ok (.invokevirtual 158, 3) := by decide +kernel
theorem dX11_seatOf_7 : decode cX11_seatOf 7 = .ok (.istore_n 3, 1) := by decide +kernel
theorem dX11_seatOf_8 : decode cX11_seatOf 8 = .ok (.iload_n 3, 1) := by decide +kernel
theorem dX11_seatOf_9 : decode cX11_seatOf 9 = .ok (.iconst (-1), 1) := by decide +kernel
theorem dX11_seatOf_10 : decode cX11_seatOf 10 = .ok (.if_icmp .ne 7, 3) := by decide +kernel
theorem dX11_seatOf_13 : decode cX11_seatOf 13 = .ok (.iconst (-1), 1) := by decide +kernel
theorem dX11_seatOf_14 : decode cX11_seatOf 14 = .ok (.goto 9, 3) := by decide +kernel
theorem dX11_seatOf_17 : decode cX11_seatOf 17 = .ok (.aload_n 0, 1) := by decide +kernel
theorem dX11_seatOf_18 : decode cX11_seatOf 18 = .ok (.getfield 30, 3) := by decide +kernel
theorem dX11_seatOf_21 : decode cX11_seatOf 21 = .ok (.iload_n 3, 1) := by decide +kernel
theorem dX11_seatOf_22 : decode cX11_seatOf 22 = .ok (.iaload, 1) := by decide +kernel
theorem dX11_seatOf_23 : decode cX11_seatOf 23 = .ok (.ireturn, 1) := by decide +kernel
set_option maxRecDepth 100000 in
theorem c_M_seatOf (σ : MS) (p0 : Int32) (p1 : Int32) : Ct z (wM z τ) rI eqA yX11_seatOf cX11_seatOf 4 (some .int) 2 0 0 [.ref 0, .int p0, .int p1] σ ((M_seatOf σ p0 p1).map fun r => (r, σ)) := by
  refine Ct.of (by decide) (Nat.le_of_ble_eq_true rfl) (fun ad x hC hR _ => ?_)
  show AT z x 4 (wM z τ) rI (eqA ad) 0 0 0 0 ad 0 [(0, .ref 0), (1, .int p0), (2, .int p1)] [] σ ((M_seatOf σ p0 p1).map fun r => (r, σ))
  unfold M_seatOf
  refine at_aload_n (j := 0) hC rfl rfl dX11_seatOf_0 ?_
  refine at_iload_n (j := 1) hC rfl rfl dX11_seatOf_1 ?_
  refine at_iconst hC ic_4 dX11_seatOf_2 ?_
  refine at_iload_n (j := 2) hC rfl rfl dX11_seatOf_3 ?_
  refine ap_callVI hC hR lk_X11_158 (c_M_lastOf σ p0 4 p1) dX11_seatOf_4 recX11 rfl rfl ⟨by decide, by decide⟩ (Nat.le_of_ble_eq_true rfl) ⟨Nat.le_refl 0, Nat.le_refl 0⟩ (fun r1 _ => ?_)
  refine at_istore_n (lv' := [(3, .int r1), (0, .ref 0), (1, .int p0), (2, .int p1)]) hC rfl dX11_seatOf_7 (by decide) rfl ?_
  refine at_iload_n (j := 0) hC rfl rfl dX11_seatOf_8 ?_
  refine at_iconst hC ic_m1 dX11_seatOf_9 ?_
  refine ap_icmp_ne (tgt := 17) hC dX11_seatOf_10 rfl (fun _ => ?_) (fun _ => ?_)
  · refine at_aload_n (j := 1) hC rfl rfl dX11_seatOf_17 ?_
    refine gf_X11_30 hC dX11_seatOf_18 ?_
    refine at_iload_n (j := 0) hC rfl rfl dX11_seatOf_21 ?_
    refine ap_iald hC 7 dX11_seatOf_22 cl_7 (fun v2 => ?_)
    exact at_iret (F := eqA ad) (ra := rI) hC dX11_seatOf_23 rfl (Nat.le_refl 0) (Nat.le_refl 0) rfl
  · refine at_iconst hC ic_m1 dX11_seatOf_13 ?_
    refine at_goto (tgt := 23) hC dX11_seatOf_14 rfl ?_
    exact at_iret (F := eqA ad) (ra := rI) hC dX11_seatOf_23 rfl (Nat.le_refl 0) (Nat.le_refl 0) rfl
theorem dX11_rateAt_0 : decode cX11_rateAt 0 = .ok (.aload_n 0, 1) := by decide +kernel
theorem dX11_rateAt_1 : decode cX11_rateAt 1 = .ok (.iload_n 1, 1) := by decide +kernel
theorem dX11_rateAt_2 : decode cX11_rateAt 2 = .ok (.bipush 12, 2) := by decide +kernel
theorem dX11_rateAt_4 : decode cX11_rateAt 4 = .ok (.iload_n 2, 1) := by decide +kernel
theorem dX11_rateAt_5 : decode cX11_rateAt 5 = .ok (.invokevirtual 158, 3) := by decide +kernel
theorem dX11_rateAt_8 : decode cX11_rateAt 8 = .ok (.istore_n 3, 1) := by decide +kernel
theorem dX11_rateAt_9 : decode cX11_rateAt 9 = .ok (.iload_n 3, 1) := by decide +kernel
theorem dX11_rateAt_10 : decode cX11_rateAt 10 = .ok (.iconst (-1), 1) := by decide +kernel
theorem dX11_rateAt_11 : decode cX11_rateAt 11 = .ok (.if_icmp .ne 7, 3) := by decide +kernel
theorem dX11_rateAt_14 : decode cX11_rateAt 14 = .ok (.iconst (-1), 1) := by decide +kernel
theorem dX11_rateAt_15 : decode cX11_rateAt 15 = .ok (.goto 28, 3) := by decide +kernel
theorem dX11_rateAt_18 : decode cX11_rateAt 18 = .ok (.aload_n 0, 1) := by decide +kernel
theorem dX11_rateAt_19 : decode cX11_rateAt 19 = .ok (.getfield 24, 3) := by decide +kernel
theorem dX11_rateAt_22 : decode cX11_rateAt 22 = .ok (.iload_n 3, 1) := by decide +kernel
theorem dX11_rateAt_23 : decode cX11_rateAt 23 = .ok (.iaload, 1) := by decide +kernel
theorem dX11_rateAt_24 : decode cX11_rateAt 24 = .ok (.iconst 2, 1) := by decide +kernel
theorem dX11_rateAt_25 : decode cX11_rateAt 25 = .ok (.if_icmp .ne 12, 3) := by decide +kernel
theorem dX11_rateAt_28 : decode cX11_rateAt 28 = .ok (.aload_n 0, 1) := by decide +kernel
theorem dX11_rateAt_29 : decode cX11_rateAt 29 = .ok (.getfield 36, 3) := by decide +kernel
theorem dX11_rateAt_32 : decode cX11_rateAt 32 = .ok (.iload_n 3, 1) := by decide +kernel
theorem dX11_rateAt_33 : decode cX11_rateAt 33 = .ok (.iaload, 1) := by decide +kernel
theorem dX11_rateAt_34 : decode cX11_rateAt 34 = .ok (.goto 9, 3) := by decide +kernel
theorem dX11_rateAt_37 : decode cX11_rateAt 37 = .ok (.aload_n 0, 1) := by decide +kernel
theorem dX11_rateAt_38 : decode cX11_rateAt 38 = .ok (.getfield 30, 3) := by decide +kernel
theorem dX11_rateAt_41 : decode cX11_rateAt 41 = .ok (.iload_n 3, 1) := by decide +kernel
theorem dX11_rateAt_42 : decode cX11_rateAt 42 = .ok (.iaload, 1) := by decide +kernel
theorem dX11_rateAt_43 : decode cX11_rateAt 43 = .ok (.ireturn, 1) := by decide +kernel
set_option maxRecDepth 100000 in
theorem c_M_rateAt (σ : MS) (p0 : Int32) (p1 : Int32) : Ct z (wM z τ) rI eqA yX11_rateAt cX11_rateAt 4 (some .int) 2 0 0 [.ref 0, .int p0, .int p1] σ ((M_rateAt σ p0 p1).map fun r => (r, σ)) := by
  refine Ct.of (by decide) (Nat.le_of_ble_eq_true rfl) (fun ad x hC hR _ => ?_)
  show AT z x 4 (wM z τ) rI (eqA ad) 0 0 0 0 ad 0 [(0, .ref 0), (1, .int p0), (2, .int p1)] [] σ ((M_rateAt σ p0 p1).map fun r => (r, σ))
  unfold M_rateAt
  refine at_aload_n (j := 0) hC rfl rfl dX11_rateAt_0 ?_
  refine at_iload_n (j := 1) hC rfl rfl dX11_rateAt_1 ?_
  refine at_bipush hC bi_12 dX11_rateAt_2 ?_
  refine at_iload_n (j := 2) hC rfl rfl dX11_rateAt_4 ?_
  refine ap_callVI hC hR lk_X11_158 (c_M_lastOf σ p0 12 p1) dX11_rateAt_5 recX11 rfl rfl ⟨by decide, by decide⟩ (Nat.le_of_ble_eq_true rfl) ⟨Nat.le_refl 0, Nat.le_refl 0⟩ (fun r1 _ => ?_)
  refine at_istore_n (lv' := [(3, .int r1), (0, .ref 0), (1, .int p0), (2, .int p1)]) hC rfl dX11_rateAt_8 (by decide) rfl ?_
  refine at_iload_n (j := 0) hC rfl rfl dX11_rateAt_9 ?_
  refine at_iconst hC ic_m1 dX11_rateAt_10 ?_
  refine ap_icmp_ne (tgt := 18) hC dX11_rateAt_11 rfl (fun _ => ?_) (fun _ => ?_)
  · refine at_aload_n (j := 1) hC rfl rfl dX11_rateAt_18 ?_
    refine gf_X11_24 hC dX11_rateAt_19 ?_
    refine at_iload_n (j := 0) hC rfl rfl dX11_rateAt_22 ?_
    refine ap_iald hC 5 dX11_rateAt_23 cl_5 (fun v2 => ?_)
    refine at_iconst hC ic_2 dX11_rateAt_24 ?_
    refine ap_icmp_ne (tgt := 37) hC dX11_rateAt_25 rfl (fun _ => ?_) (fun _ => ?_)
    · refine at_aload_n (j := 1) hC rfl rfl dX11_rateAt_37 ?_
      refine gf_X11_30 hC dX11_rateAt_38 ?_
      refine at_iload_n (j := 0) hC rfl rfl dX11_rateAt_41 ?_
      refine ap_iald hC 7 dX11_rateAt_42 cl_7 (fun v3 => ?_)
      exact at_iret (F := eqA ad) (ra := rI) hC dX11_rateAt_43 rfl (Nat.le_refl 0) (Nat.le_refl 0) rfl
    · refine at_aload_n (j := 1) hC rfl rfl dX11_rateAt_28 ?_
      refine gf_X11_36 hC dX11_rateAt_29 ?_
      refine at_iload_n (j := 0) hC rfl rfl dX11_rateAt_32 ?_
      refine ap_iald hC 9 dX11_rateAt_33 cl_9 (fun v4 => ?_)
      refine at_goto (tgt := 43) hC dX11_rateAt_34 rfl ?_
      exact at_iret (F := eqA ad) (ra := rI) hC dX11_rateAt_43 rfl (Nat.le_refl 0) (Nat.le_refl 0) rfl
  · refine at_iconst hC ic_m1 dX11_rateAt_14 ?_
    refine at_goto (tgt := 43) hC dX11_rateAt_15 rfl ?_
    exact at_iret (F := eqA ad) (ra := rI) hC dX11_rateAt_43 rfl (Nat.le_refl 0) (Nat.le_refl 0) rfl
theorem dX11_firstJoined_0 : decode cX11_firstJoined 0 = .ok (.iconst (-1), 1) := by decide +kernel
theorem dX11_firstJoined_1 : decode cX11_firstJoined 1 = .ok (.istore_n 3, 1) := by decide +kernel
theorem dX11_firstJoined_2 : decode cX11_firstJoined 2 = .ok (.iconst 0, 1) := by decide +kernel
theorem dX11_firstJoined_3 : decode cX11_firstJoined 3 = .ok (.istore 4, 2) := by decide +kernel
theorem dX11_firstJoined_5 : decode cX11_firstJoined 5 = .ok (.iload 4, 2) := by decide +kernel
theorem dX11_firstJoined_7 : decode cX11_firstJoined 7 = .ok (.aload_n 0, 1) := by decide +kernel
theorem dX11_firstJoined_8 : decode cX11_firstJoined 8 = .ok (.getfield 140, 3) := by decide +kernel
theorem dX11_firstJoined_11 : decode cX11_firstJoined 11 = .ok (.if_icmp .ge 92, 3) := by decide +kernel
theorem dX11_firstJoined_14 : decode cX11_firstJoined 14 = .ok (.aload_n 0, 1) := by decide +kernel
theorem dX11_firstJoined_15 : decode cX11_firstJoined 15 = .ok (.getfield 111, 3) := by decide +kernel
theorem dX11_firstJoined_18 : decode cX11_firstJoined 18 = .ok (.iload 4, 2) := by decide +kernel
theorem dX11_firstJoined_20 : decode cX11_firstJoined 20 = .ok (.baload, 1) := by decide +kernel
theorem dX11_firstJoined_21 : decode cX11_firstJoined 21 = .ok (.ifCond .eq 40, 3) := by decide +kernel
theorem dX11_firstJoined_24 : decode cX11_firstJoined 24 = .ok (.aload_n 0, 1) := by decide +kernel
theorem dX11_firstJoined_25 : decode cX11_firstJoined 25 = .ok (.getfield 24, 3) := by decide +kernel
theorem dX11_firstJoined_28 : decode cX11_firstJoined 28 = .ok (.iload 4, 2) := by decide +kernel
theorem dX11_firstJoined_30 : decode cX11_firstJoined 30 = .ok (.iaload, 1) := by decide +kernel
theorem dX11_firstJoined_31 : decode cX11_firstJoined 31 = .ok (.iconst 2, 1) := by decide +kernel
theorem dX11_firstJoined_32 : decode cX11_firstJoined 32 = .ok (.if_icmp .ne 29, 3) := by decide +kernel
theorem dX11_firstJoined_35 : decode cX11_firstJoined 35 = .ok (.aload_n 0, 1) := by decide +kernel
theorem dX11_firstJoined_36 : decode cX11_firstJoined 36 = .ok (.getfield 27, 3) := by decide +kernel
theorem dX11_firstJoined_39 : decode cX11_firstJoined 39 = .ok (.iload 4, 2) := by decide +kernel
theorem dX11_firstJoined_41 : decode cX11_firstJoined 41 = .ok (.iaload, 1) := by decide +kernel
theorem dX11_firstJoined_42 : decode cX11_firstJoined 42 = .ok (.iload_n 1, 1) := by decide +kernel
theorem dX11_firstJoined_43 : decode cX11_firstJoined 43 = .ok (.if_icmp .ne 18, 3) := by decide +kernel
theorem dX11_firstJoined_46 : decode cX11_firstJoined 46 = .ok (.aload_n 0, 1) := by decide +kernel
theorem dX11_firstJoined_47 : decode cX11_firstJoined 47 = .ok (.getfield 33, 3) := by decide +kernel
theorem dX11_firstJoined_50 : decode cX11_firstJoined 50 = .ok (.iload 4, 2) := by decide +kernel
theorem dX11_firstJoined_52 : decode cX11_firstJoined 52 = .ok (.iaload, 1) := by decide +kernel
theorem dX11_firstJoined_53 : decode cX11_firstJoined 53 = .ok (.iload_n 2, 1) := by decide +kernel
theorem dX11_firstJoined_54 : decode cX11_firstJoined 54 = .ok (.if_icmp .gt 7, 3) := by decide +kernel
theorem dX11_firstJoined_57 : decode cX11_firstJoined 57 = .ok (.iconst 1, 1) := by decide +kernel
theorem dX11_firstJoined_58 : decode cX11_firstJoined 58 = .ok (.goto 4, 3) := by decide +kernel
theorem dX11_firstJoined_61 : decode cX11_firstJoined 61 = .ok (.iconst 0, 1) := by decide +kernel
theorem dX11_firstJoined_62 : decode cX11_firstJoined 62 = .ok (.istore 5, 2) := by decide +kernel
theorem dX11_firstJoined_64 : decode cX11_firstJoined 64 = .ok (.iload 5, 2) := by decide +kernel
theorem dX11_firstJoined_66 : decode cX11_firstJoined 66 = .ok (.ifCond .eq 29, 3) := by decide +kernel
theorem dX11_firstJoined_69 : decode cX11_firstJoined 69 = .ok (.iload_n 3, 1) := by decide +kernel
theorem dX11_firstJoined_70 : decode cX11_firstJoined 70 = .ok (.iconst (-1), 1) := by decide +kernel
theorem dX11_firstJoined_71 : decode cX11_firstJoined 71 = .ok (.if_icmp .eq 14, 3) := by decide +kernel
theorem dX11_firstJoined_74 : decode cX11_firstJoined 74 = .ok (.aload_n 0, 1) := by decide +kernel
theorem dX11_firstJoined_75 : decode cX11_firstJoined 75 = .ok (.getfield 33, 3) := by decide +kernel
theorem dX11_firstJoined_78 : decode cX11_firstJoined 78 = .ok (.iload 4, 2) := by decide +kernel
theorem dX11_firstJoined_80 : decode cX11_firstJoined 80 = .ok (.iaload, 1) := by decide +kernel
theorem dX11_firstJoined_81 : decode cX11_firstJoined 81 = .ok (.iload_n 3, 1) := by decide +kernel
theorem dX11_firstJoined_82 : decode cX11_firstJoined 82 = .ok (.if_icmp .ge 13, 3) := by decide +kernel
theorem dX11_firstJoined_85 : decode cX11_firstJoined 85 = .ok (.aload_n 0, 1) := by decide +kernel
theorem dX11_firstJoined_86 : decode cX11_firstJoined 86 = .ok (.getfield 33, 3) := by decide +kernel
theorem dX11_firstJoined_89 : decode cX11_firstJoined 89 = .ok (.iload 4, 2) := by decide +kernel
theorem dX11_firstJoined_91 : decode cX11_firstJoined 91 = .ok (.iaload, 1) := by decide +kernel
theorem dX11_firstJoined_92 : decode cX11_firstJoined 92 = .ok (.goto 4, 3) := by decide +kernel
theorem dX11_firstJoined_95 : decode cX11_firstJoined 95 = .ok (.iload_n 3, 1) := by decide +kernel
theorem dX11_firstJoined_96 : decode cX11_firstJoined 96 = .ok (.istore_n 3, 1) := by decide +kernel
theorem dX11_firstJoined_97 : decode cX11_firstJoined 97 = .ok (.iinc 4 1, 3) := by decide +kernel
theorem dX11_firstJoined_100 : decode cX11_firstJoined 100 = .ok (.goto (-95), 3) := by decide +kernel
theorem dX11_firstJoined_103 : decode cX11_firstJoined 103 = .ok (.iload_n 3, 1) := by decide +kernel
theorem dX11_firstJoined_104 : decode cX11_firstJoined 104 = .ok (.ireturn, 1) := by decide +kernel
set_option maxRecDepth 100000 in
theorem t_M_firstJoined_J96 (hC : CX z ad x cX11_firstJoined RX11 6 (some .int)) (hR : x.2.2.1 = rmk 1 0 0) (σ : MS) (k_5 : Int32 → Int32 → Int32 → Int32 → Option Int32) (hk_5 : ∀ (a1 : Int32) (a2 : Int32) (a3 : Int32) (a4 : Int32), AT z x 6 (wM z τ) rI (eqA ad) 0 0 0 0 ad 5 [(0, .ref 0), (1, .int a1), (2, .int a2), (3, .int a3), (4, .int a4)] [] σ ((k_5 a1 a2 a3 a4).map fun r => (r, σ))) (a1 : Int32) (a2 : Int32) (a4 : Int32) (s0 : Int32) : AT z x 6 (wM z τ) rI (eqA ad) 0 0 0 0 ad 96 [(0, .ref 0), (1, .int a1), (2, .int a2), (4, .int a4)] [.int s0] σ ((M_firstJoined_J96 k_5 σ a1 a2 a4 s0).map fun r => (r, σ)) := by
  unfold M_firstJoined_J96
  refine at_istore_n (lv' := [(3, .int s0), (0, .ref 0), (1, .int a1), (2, .int a2), (4, .int a4)]) hC rfl dX11_firstJoined_96 (by decide) rfl ?_
  refine at_iinc (j := 4) (v := a4 + 1) (lv' := [(4, .int (a4 + 1)), (3, .int s0), (0, .ref 0), (1, .int a1), (2, .int a2)]) hC dX11_firstJoined_97 rfl rfl (by decide) rfl ?_
  refine at_goto (tgt := 5) hC dX11_firstJoined_100 rfl ?_
  refine at_drop (lv' := [(0, .ref 0), (1, .int a1), (2, .int a2), (3, .int s0), (4, .int (a4 + 1))]) [2, 3, 4, 1, 0] rfl ?_
  exact hk_5 a1 a2 s0 (a4 + 1)
set_option maxRecDepth 100000 in
theorem t_M_firstJoined_J95 (hC : CX z ad x cX11_firstJoined RX11 6 (some .int)) (hR : x.2.2.1 = rmk 1 0 0) (σ : MS) (k_5 : Int32 → Int32 → Int32 → Int32 → Option Int32) (hk_5 : ∀ (a1 : Int32) (a2 : Int32) (a3 : Int32) (a4 : Int32), AT z x 6 (wM z τ) rI (eqA ad) 0 0 0 0 ad 5 [(0, .ref 0), (1, .int a1), (2, .int a2), (3, .int a3), (4, .int a4)] [] σ ((k_5 a1 a2 a3 a4).map fun r => (r, σ))) (a1 : Int32) (a2 : Int32) (a3 : Int32) (a4 : Int32) : AT z x 6 (wM z τ) rI (eqA ad) 0 0 0 0 ad 95 [(0, .ref 0), (1, .int a1), (2, .int a2), (3, .int a3), (4, .int a4)] [] σ ((M_firstJoined_J95 k_5 σ a1 a2 a3 a4).map fun r => (r, σ)) := by
  unfold M_firstJoined_J95
  refine at_iload_n (j := 3) hC rfl rfl dX11_firstJoined_95 ?_
  refine at_drop (lv' := [(0, .ref 0), (1, .int a1), (2, .int a2), (4, .int a4)]) [0, 1, 2, 4] rfl ?_
  exact t_M_firstJoined_J96 hC hR σ k_5 hk_5 a1 a2 a4 a3
set_option maxRecDepth 100000 in
theorem t_M_firstJoined_J85 (hC : CX z ad x cX11_firstJoined RX11 6 (some .int)) (hR : x.2.2.1 = rmk 1 0 0) (σ : MS) (k_5 : Int32 → Int32 → Int32 → Int32 → Option Int32) (hk_5 : ∀ (a1 : Int32) (a2 : Int32) (a3 : Int32) (a4 : Int32), AT z x 6 (wM z τ) rI (eqA ad) 0 0 0 0 ad 5 [(0, .ref 0), (1, .int a1), (2, .int a2), (3, .int a3), (4, .int a4)] [] σ ((k_5 a1 a2 a3 a4).map fun r => (r, σ))) (a1 : Int32) (a2 : Int32) (a4 : Int32) : AT z x 6 (wM z τ) rI (eqA ad) 0 0 0 0 ad 85 [(0, .ref 0), (1, .int a1), (2, .int a2), (4, .int a4)] [] σ ((M_firstJoined_J85 k_5 σ a1 a2 a4).map fun r => (r, σ)) := by
  unfold M_firstJoined_J85
  refine at_aload_n (j := 0) hC rfl rfl dX11_firstJoined_85 ?_
  refine gf_X11_33 hC dX11_firstJoined_86 ?_
  refine at_iload (j := 3) hC rfl dX11_firstJoined_89 ?_
  refine ap_iald hC 8 dX11_firstJoined_91 cl_8 (fun v2 => ?_)
  refine at_goto (tgt := 96) hC dX11_firstJoined_92 rfl ?_
  exact t_M_firstJoined_J96 hC hR σ k_5 hk_5 a1 a2 a4 v2
set_option maxRecDepth 100000 in
theorem t_M_firstJoined_J62 (hC : CX z ad x cX11_firstJoined RX11 6 (some .int)) (hR : x.2.2.1 = rmk 1 0 0) (σ : MS) (k_5 : Int32 → Int32 → Int32 → Int32 → Option Int32) (hk_5 : ∀ (a1 : Int32) (a2 : Int32) (a3 : Int32) (a4 : Int32), AT z x 6 (wM z τ) rI (eqA ad) 0 0 0 0 ad 5 [(0, .ref 0), (1, .int a1), (2, .int a2), (3, .int a3), (4, .int a4)] [] σ ((k_5 a1 a2 a3 a4).map fun r => (r, σ))) (a1 : Int32) (a2 : Int32) (a3 : Int32) (a4 : Int32) (s0 : Int32) : AT z x 6 (wM z τ) rI (eqA ad) 0 0 0 0 ad 62 [(0, .ref 0), (1, .int a1), (2, .int a2), (3, .int a3), (4, .int a4)] [.int s0] σ ((M_firstJoined_J62 k_5 σ a1 a2 a3 a4 s0).map fun r => (r, σ)) := by
  unfold M_firstJoined_J62
  refine at_istore (lv' := [(5, .int s0), (0, .ref 0), (1, .int a1), (2, .int a2), (3, .int a3), (4, .int a4)]) hC dX11_firstJoined_62 (by decide) rfl ?_
  refine at_iload (j := 0) hC rfl dX11_firstJoined_64 ?_
  refine ap_if_eq (tgt := 95) hC dX11_firstJoined_66 rfl (fun _ => ?_) (fun _ => ?_)
  · refine at_drop (lv' := [(0, .ref 0), (1, .int a1), (2, .int a2), (3, .int a3), (4, .int a4)]) [1, 2, 3, 4, 5] rfl ?_
    exact t_M_firstJoined_J95 hC hR σ k_5 hk_5 a1 a2 a3 a4
  · refine at_iload_n (j := 4) hC rfl rfl dX11_firstJoined_69 ?_
    refine at_iconst hC ic_m1 dX11_firstJoined_70 ?_
    refine ap_icmp_eq (tgt := 85) hC dX11_firstJoined_71 rfl (fun _ => ?_) (fun _ => ?_)
    · refine at_drop (lv' := [(0, .ref 0), (1, .int a1), (2, .int a2), (4, .int a4)]) [1, 2, 3, 5] rfl ?_
      exact t_M_firstJoined_J85 hC hR σ k_5 hk_5 a1 a2 a4
    · refine at_aload_n (j := 1) hC rfl rfl dX11_firstJoined_74 ?_
      refine gf_X11_33 hC dX11_firstJoined_75 ?_
      refine at_iload (j := 5) hC rfl dX11_firstJoined_78 ?_
      refine ap_iald hC 8 dX11_firstJoined_80 cl_8 (fun v3 => ?_)
      refine at_iload_n (j := 4) hC rfl rfl dX11_firstJoined_81 ?_
      refine ap_icmp_ge (tgt := 95) hC dX11_firstJoined_82 rfl (fun _ => ?_) (fun _ => ?_)
      · refine at_drop (lv' := [(0, .ref 0), (1, .int a1), (2, .int a2), (3, .int a3), (4, .int a4)]) [1, 2, 3, 4, 5] rfl ?_
        exact t_M_firstJoined_J95 hC hR σ k_5 hk_5 a1 a2 a3 a4
      · refine at_drop (lv' := [(0, .ref 0), (1, .int a1), (2, .int a2), (4, .int a4)]) [1, 2, 3, 5] rfl ?_
        exact t_M_firstJoined_J85 hC hR σ k_5 hk_5 a1 a2 a4
set_option maxRecDepth 100000 in
theorem t_M_firstJoined_J61 (hC : CX z ad x cX11_firstJoined RX11 6 (some .int)) (hR : x.2.2.1 = rmk 1 0 0) (σ : MS) (k_5 : Int32 → Int32 → Int32 → Int32 → Option Int32) (hk_5 : ∀ (a1 : Int32) (a2 : Int32) (a3 : Int32) (a4 : Int32), AT z x 6 (wM z τ) rI (eqA ad) 0 0 0 0 ad 5 [(0, .ref 0), (1, .int a1), (2, .int a2), (3, .int a3), (4, .int a4)] [] σ ((k_5 a1 a2 a3 a4).map fun r => (r, σ))) (a1 : Int32) (a2 : Int32) (a3 : Int32) (a4 : Int32) : AT z x 6 (wM z τ) rI (eqA ad) 0 0 0 0 ad 61 [(0, .ref 0), (1, .int a1), (2, .int a2), (3, .int a3), (4, .int a4)] [] σ ((M_firstJoined_J61 k_5 σ a1 a2 a3 a4).map fun r => (r, σ)) := by
  unfold M_firstJoined_J61
  refine at_iconst hC ic_0 dX11_firstJoined_61 ?_
  exact t_M_firstJoined_J62 hC hR σ k_5 hk_5 a1 a2 a3 a4 0
set_option maxRecDepth 100000 in
theorem t_M_firstJoined_L5 (hC : CX z ad x cX11_firstJoined RX11 6 (some .int)) (hR : x.2.2.1 = rmk 1 0 0) (σ : MS) (n : Nat) (a1 : Int32) (a2 : Int32) (a3 : Int32) (a4 : Int32) : AT z x 6 (wM z τ) rI (eqA ad) 0 0 0 0 ad 5 [(0, .ref 0), (1, .int a1), (2, .int a2), (3, .int a3), (4, .int a4)] [] σ ((M_firstJoined_L5 n σ a1 a2 a3 a4).map fun r => (r, σ)) := by
  revert a1 a2 a3 a4
  show ∀ (a1 : Int32) (a2 : Int32) (a3 : Int32) (a4 : Int32), AT z x 6 (wM z τ) rI (eqA ad) 0 0 0 0 ad 5 [(0, .ref 0), (1, .int a1), (2, .int a2), (3, .int a3), (4, .int a4)] [] σ ((M_firstJoined_L5_r σ n a1 a2 a3 a4).map fun r => (r, σ))
  induction n with
  | zero => intro a1 a2 a3 a4; exact ap_none
  | succ n hk_5 =>
    intro a1 a2 a3 a4
    unfold M_firstJoined_L5_r
    refine at_iload (j := 4) hC rfl dX11_firstJoined_5 ?_
    refine at_aload_n (j := 0) hC rfl rfl dX11_firstJoined_7 ?_
    refine gf_X11_140 hC dX11_firstJoined_8 ?_
    refine ap_icmp_ge (tgt := 103) hC dX11_firstJoined_11 rfl (fun _ => ?_) (fun _ => ?_)
    · refine at_iload_n (j := 3) hC rfl rfl dX11_firstJoined_103 ?_
      exact at_iret (F := eqA ad) (ra := rI) hC dX11_firstJoined_104 rfl (Nat.le_refl 0) (Nat.le_refl 0) rfl
    · refine at_aload_n (j := 0) hC rfl rfl dX11_firstJoined_14 ?_
      refine gf_X11_111 hC dX11_firstJoined_15 ?_
      refine at_iload (j := 4) hC rfl dX11_firstJoined_18 ?_
      refine ap_zald hC 32 dX11_firstJoined_20 cl_32 (fun v1 => ?_)
      refine ap_if_eq (tgt := 61) hC dX11_firstJoined_21 rfl (fun _ => ?_) (fun _ => ?_)
      · exact t_M_firstJoined_J61 hC hR σ (M_firstJoined_L5_r σ n) hk_5 a1 a2 a3 a4
      · refine at_aload_n (j := 0) hC rfl rfl dX11_firstJoined_24 ?_
        refine gf_X11_24 hC dX11_firstJoined_25 ?_
        refine at_iload (j := 4) hC rfl dX11_firstJoined_28 ?_
        refine ap_iald hC 5 dX11_firstJoined_30 cl_5 (fun v4 => ?_)
        refine at_iconst hC ic_2 dX11_firstJoined_31 ?_
        refine ap_icmp_ne (tgt := 61) hC dX11_firstJoined_32 rfl (fun _ => ?_) (fun _ => ?_)
        · exact t_M_firstJoined_J61 hC hR σ (M_firstJoined_L5_r σ n) hk_5 a1 a2 a3 a4
        · refine at_aload_n (j := 0) hC rfl rfl dX11_firstJoined_35 ?_
          refine gf_X11_27 hC dX11_firstJoined_36 ?_
          refine at_iload (j := 4) hC rfl dX11_firstJoined_39 ?_
          refine ap_iald hC 6 dX11_firstJoined_41 cl_6 (fun v5 => ?_)
          refine at_iload_n (j := 1) hC rfl rfl dX11_firstJoined_42 ?_
          refine ap_icmp_ne (tgt := 61) hC dX11_firstJoined_43 rfl (fun _ => ?_) (fun _ => ?_)
          · exact t_M_firstJoined_J61 hC hR σ (M_firstJoined_L5_r σ n) hk_5 a1 a2 a3 a4
          · refine at_aload_n (j := 0) hC rfl rfl dX11_firstJoined_46 ?_
            refine gf_X11_33 hC dX11_firstJoined_47 ?_
            refine at_iload (j := 4) hC rfl dX11_firstJoined_50 ?_
            refine ap_iald hC 8 dX11_firstJoined_52 cl_8 (fun v6 => ?_)
            refine at_iload_n (j := 2) hC rfl rfl dX11_firstJoined_53 ?_
            refine ap_icmp_gt (tgt := 61) hC dX11_firstJoined_54 rfl (fun _ => ?_) (fun _ => ?_)
            · exact t_M_firstJoined_J61 hC hR σ (M_firstJoined_L5_r σ n) hk_5 a1 a2 a3 a4
            · refine at_iconst hC ic_1 dX11_firstJoined_57 ?_
              refine at_goto (tgt := 62) hC dX11_firstJoined_58 rfl ?_
              exact t_M_firstJoined_J62 hC hR σ (M_firstJoined_L5_r σ n) hk_5 a1 a2 a3 a4 1
set_option maxRecDepth 100000 in
theorem c_M_firstJoined (σ : MS) (p0 : Int32) (p1 : Int32) : Ct z (wM z τ) rI eqA yX11_firstJoined cX11_firstJoined 6 (some .int) 1 0 0 [.ref 0, .int p0, .int p1] σ ((M_firstJoined σ p0 p1).map fun r => (r, σ)) := by
  refine Ct.of (by decide) (Nat.le_of_ble_eq_true rfl) (fun ad x hC hR _ => ?_)
  show AT z x 6 (wM z τ) rI (eqA ad) 0 0 0 0 ad 0 [(0, .ref 0), (1, .int p0), (2, .int p1)] [] σ ((M_firstJoined σ p0 p1).map fun r => (r, σ))
  unfold M_firstJoined
  refine at_iconst hC ic_m1 dX11_firstJoined_0 ?_
  refine at_istore_n (lv' := [(3, .int (-1)), (0, .ref 0), (1, .int p0), (2, .int p1)]) hC rfl dX11_firstJoined_1 (by decide) rfl ?_
  refine at_iconst hC ic_0 dX11_firstJoined_2 ?_
  refine at_istore (lv' := [(4, .int 0), (3, .int (-1)), (0, .ref 0), (1, .int p0), (2, .int p1)]) hC dX11_firstJoined_3 (by decide) rfl ?_
  refine at_drop (lv' := [(0, .ref 0), (1, .int p0), (2, .int p1), (3, .int (-1)), (4, .int 0)]) [2, 3, 4, 1, 0] rfl ?_
  exact t_M_firstJoined_L5 hC hR σ 100000 p0 p1 (-1) 0
theorem dX11_isSeated_0 : decode cX11_isSeated 0 = .ok (.iconst 0, 1) := by decide +kernel
theorem dX11_isSeated_1 : decode cX11_isSeated 1 = .ok (.istore_n 3, 1) := by decide +kernel
theorem dX11_isSeated_2 : decode cX11_isSeated 2 = .ok (.iconst 0, 1) := by decide +kernel
theorem dX11_isSeated_3 : decode cX11_isSeated 3 = .ok (.istore 4, 2) := by decide +kernel
theorem dX11_isSeated_5 : decode cX11_isSeated 5 = .ok (.iload 4, 2) := by decide +kernel
theorem dX11_isSeated_7 : decode cX11_isSeated 7 = .ok (.aload_n 0, 1) := by decide +kernel
theorem dX11_isSeated_8 : decode cX11_isSeated 8 = .ok (.getfield 126, 3) := by decide +kernel
theorem dX11_isSeated_11 : decode cX11_isSeated 11 = .ok (.if_icmp .ge 40, 3) := by decide +kernel
theorem dX11_isSeated_14 : decode cX11_isSeated 14 = .ok (.iload_n 3, 1) := by decide +kernel
theorem dX11_isSeated_15 : decode cX11_isSeated 15 = .ok (.ifCond .ne 36, 3) := by decide +kernel
theorem dX11_isSeated_18 : decode cX11_isSeated 18 = .ok (.aload_n 0, 1) := by decide +kernel
theorem dX11_isSeated_19 : decode cX11_isSeated 19 = .ok (.iload 4, 2) := by decide +kernel
theorem dX11_isSeated_21 : decode cX11_isSeated 21 = .ok (.iload_n 2, 1) := by decide +kernel
theorem dX11_isSeated_22 : decode cX11_isSeated 22 = .ok (.invokevirtual 162, 3) := by decide +kernel
theorem dX11_isSeated_25 : decode cX11_isSeated 25 = .ok (.ifCond .eq 18, 3) := by decide +kernel
theorem dX11_isSeated_28 : decode cX11_isSeated 28 = .ok (.aload_n 0, 1) := by decide +kernel
theorem dX11_isSeated_29 : decode cX11_isSeated 29 = .ok (.iload 4, 2) := by decide +kernel
theorem dX11_isSeated_31 : decode cX11_isSeated 31 = .ok (.iload_n 2, 1) := by decide +kernel
theorem dX11_isSeated_32 : decode cX11_isSeated 32 = .ok (.invokevirtual 165, 3) := by decide +kernel
theorem dX11_isSeated_35 : decode cX11_isSeated 35 = .ok (.iload_n 1, 1) := by decide +kernel
theorem dX11_isSeated_36 : decode cX11_isSeated 36 = .ok (.if_icmp .ne 7, 3) := by decide +kernel
theorem dX11_isSeated_39 : decode cX11_isSeated 39 = .ok (.iconst 1, 1) := by decide +kernel
theorem dX11_isSeated_40 : decode cX11_isSeated 40 = .ok (.goto 4, 3) := by decide +kernel
theorem dX11_isSeated_43 : decode cX11_isSeated 43 = .ok (.iconst 0, 1) := by decide +kernel
theorem dX11_isSeated_44 : decode cX11_isSeated 44 = .ok (.istore_n 3, 1) := by decide +kernel
theorem dX11_isSeated_45 : decode cX11_isSeated 45 = .ok (.iinc 4 1, 3) := by decide +kernel
theorem dX11_isSeated_48 : decode cX11_isSeated 48 = .ok (.goto (-43), 3) := by decide +kernel
theorem dX11_isSeated_51 : decode cX11_isSeated 51 = .ok (.iload_n 3, 1) := by decide +kernel
theorem dX11_isSeated_52 : decode cX11_isSeated 52 = .ok (.ireturn, 1) := by decide +kernel
set_option maxRecDepth 100000 in
theorem t_M_isSeated_J44 (hC : CX z ad x cX11_isSeated RX11 5 (some .boolean)) (hR : x.2.2.1 = rmk 3 0 0) (σ : MS) (k_5 : Int32 → Int32 → Int32 → Int32 → Option Int32) (hk_5 : ∀ (a1 : Int32) (a2 : Int32) (a3 : Int32) (a4 : Int32), AT z x 5 (wM z τ) rI (eqA ad) 0 0 0 0 ad 5 [(0, .ref 0), (1, .int a1), (2, .int a2), (3, .int a3), (4, .int a4)] [] σ ((k_5 a1 a2 a3 a4).map fun r => (r, σ))) (a1 : Int32) (a2 : Int32) (a4 : Int32) (s0 : Int32) : AT z x 5 (wM z τ) rI (eqA ad) 0 0 0 0 ad 44 [(0, .ref 0), (1, .int a1), (2, .int a2), (4, .int a4)] [.int s0] σ ((M_isSeated_J44 k_5 σ a1 a2 a4 s0).map fun r => (r, σ)) := by
  unfold M_isSeated_J44
  refine at_istore_n (lv' := [(3, .int s0), (0, .ref 0), (1, .int a1), (2, .int a2), (4, .int a4)]) hC rfl dX11_isSeated_44 (by decide) rfl ?_
  refine at_iinc (j := 4) (v := a4 + 1) (lv' := [(4, .int (a4 + 1)), (3, .int s0), (0, .ref 0), (1, .int a1), (2, .int a2)]) hC dX11_isSeated_45 rfl rfl (by decide) rfl ?_
  refine at_goto (tgt := 5) hC dX11_isSeated_48 rfl ?_
  refine at_drop (lv' := [(0, .ref 0), (1, .int a1), (2, .int a2), (3, .int s0), (4, .int (a4 + 1))]) [2, 3, 4, 1, 0] rfl ?_
  exact hk_5 a1 a2 s0 (a4 + 1)
set_option maxRecDepth 100000 in
theorem t_M_isSeated_J43 (hC : CX z ad x cX11_isSeated RX11 5 (some .boolean)) (hR : x.2.2.1 = rmk 3 0 0) (σ : MS) (k_5 : Int32 → Int32 → Int32 → Int32 → Option Int32) (hk_5 : ∀ (a1 : Int32) (a2 : Int32) (a3 : Int32) (a4 : Int32), AT z x 5 (wM z τ) rI (eqA ad) 0 0 0 0 ad 5 [(0, .ref 0), (1, .int a1), (2, .int a2), (3, .int a3), (4, .int a4)] [] σ ((k_5 a1 a2 a3 a4).map fun r => (r, σ))) (a1 : Int32) (a2 : Int32) (a4 : Int32) : AT z x 5 (wM z τ) rI (eqA ad) 0 0 0 0 ad 43 [(0, .ref 0), (1, .int a1), (2, .int a2), (4, .int a4)] [] σ ((M_isSeated_J43 k_5 σ a1 a2 a4).map fun r => (r, σ)) := by
  unfold M_isSeated_J43
  refine at_iconst hC ic_0 dX11_isSeated_43 ?_
  exact t_M_isSeated_J44 hC hR σ k_5 hk_5 a1 a2 a4 0
set_option maxRecDepth 100000 in
theorem t_M_isSeated_L5 (hC : CX z ad x cX11_isSeated RX11 5 (some .boolean)) (hR : x.2.2.1 = rmk 3 0 0) (σ : MS) (n : Nat) (a1 : Int32) (a2 : Int32) (a3 : Int32) (a4 : Int32) : AT z x 5 (wM z τ) rI (eqA ad) 0 0 0 0 ad 5 [(0, .ref 0), (1, .int a1), (2, .int a2), (3, .int a3), (4, .int a4)] [] σ ((M_isSeated_L5 n σ a1 a2 a3 a4).map fun r => (r, σ)) := by
  revert a1 a2 a3 a4
  show ∀ (a1 : Int32) (a2 : Int32) (a3 : Int32) (a4 : Int32), AT z x 5 (wM z τ) rI (eqA ad) 0 0 0 0 ad 5 [(0, .ref 0), (1, .int a1), (2, .int a2), (3, .int a3), (4, .int a4)] [] σ ((M_isSeated_L5_r σ n a1 a2 a3 a4).map fun r => (r, σ))
  induction n with
  | zero => intro a1 a2 a3 a4; exact ap_none
  | succ n hk_5 =>
    intro a1 a2 a3 a4
    unfold M_isSeated_L5_r
    refine at_iload (j := 4) hC rfl dX11_isSeated_5 ?_
    refine at_aload_n (j := 0) hC rfl rfl dX11_isSeated_7 ?_
    refine gf_X11_126 hC dX11_isSeated_8 ?_
    refine ap_icmp_ge (tgt := 51) hC dX11_isSeated_11 rfl (fun _ => ?_) (fun _ => ?_)
    · refine at_iload_n (j := 3) hC rfl rfl dX11_isSeated_51 ?_
      refine ap_bz (fun hb => ?_)
      exact at_zret (F := eqA ad) (ra := rI) hC (nbz hb) dX11_isSeated_52 rfl (Nat.le_refl 0) (Nat.le_refl 0) rfl
    · refine at_iload_n (j := 3) hC rfl rfl dX11_isSeated_14 ?_
      refine ap_if_ne (tgt := 51) hC dX11_isSeated_15 rfl (fun _ => ?_) (fun _ => ?_)
      · refine at_iload_n (j := 3) hC rfl rfl dX11_isSeated_51 ?_
        refine ap_bz (fun hb => ?_)
        exact at_zret (F := eqA ad) (ra := rI) hC (nbz hb) dX11_isSeated_52 rfl (Nat.le_refl 0) (Nat.le_refl 0) rfl
      · refine at_aload_n (j := 0) hC rfl rfl dX11_isSeated_18 ?_
        refine at_iload (j := 4) hC rfl dX11_isSeated_19 ?_
        refine at_iload_n (j := 2) hC rfl rfl dX11_isSeated_21 ?_
        refine ap_callVI hC hR lk_X11_162 (c_M_isMember σ a4 a2) dX11_isSeated_22 recX11 rfl rfl ⟨by decide, by decide⟩ (Nat.le_of_ble_eq_true rfl) ⟨Nat.le_refl 0, Nat.le_refl 0⟩ (fun r1 _ => ?_)
        refine ap_if_eq (tgt := 43) hC dX11_isSeated_25 rfl (fun _ => ?_) (fun _ => ?_)
        · refine at_drop (lv' := [(0, .ref 0), (1, .int a1), (2, .int a2), (4, .int a4)]) [0, 1, 2, 4] rfl ?_
          exact t_M_isSeated_J43 hC hR σ (M_isSeated_L5_r σ n) hk_5 a1 a2 a4
        · refine at_aload_n (j := 0) hC rfl rfl dX11_isSeated_28 ?_
          refine at_iload (j := 4) hC rfl dX11_isSeated_29 ?_
          refine at_iload_n (j := 2) hC rfl rfl dX11_isSeated_31 ?_
          refine ap_callVI hC hR lk_X11_165 (c_M_seatOf σ a4 a2) dX11_isSeated_32 recX11 rfl rfl ⟨by decide, by decide⟩ (Nat.le_of_ble_eq_true rfl) ⟨Nat.le_refl 0, Nat.le_refl 0⟩ (fun r2 _ => ?_)
          refine at_iload_n (j := 1) hC rfl rfl dX11_isSeated_35 ?_
          refine ap_icmp_ne (tgt := 43) hC dX11_isSeated_36 rfl (fun _ => ?_) (fun _ => ?_)
          · refine at_drop (lv' := [(0, .ref 0), (1, .int a1), (2, .int a2), (4, .int a4)]) [0, 1, 2, 4] rfl ?_
            exact t_M_isSeated_J43 hC hR σ (M_isSeated_L5_r σ n) hk_5 a1 a2 a4
          · refine at_iconst hC ic_1 dX11_isSeated_39 ?_
            refine at_goto (tgt := 44) hC dX11_isSeated_40 rfl ?_
            refine at_drop (lv' := [(0, .ref 0), (1, .int a1), (2, .int a2), (4, .int a4)]) [0, 1, 2, 4] rfl ?_
            exact t_M_isSeated_J44 hC hR σ (M_isSeated_L5_r σ n) hk_5 a1 a2 a4 1
set_option maxRecDepth 100000 in
theorem c_M_isSeated (σ : MS) (p0 : Int32) (p1 : Int32) : Ct z (wM z τ) rI eqA yX11_isSeated cX11_isSeated 5 (some .boolean) 3 0 0 [.ref 0, .int p0, .int p1] σ ((M_isSeated σ p0 p1).map fun r => (r, σ)) := by
  refine Ct.of (by decide) (Nat.le_of_ble_eq_true rfl) (fun ad x hC hR _ => ?_)
  show AT z x 5 (wM z τ) rI (eqA ad) 0 0 0 0 ad 0 [(0, .ref 0), (1, .int p0), (2, .int p1)] [] σ ((M_isSeated σ p0 p1).map fun r => (r, σ))
  unfold M_isSeated
  refine at_iconst hC ic_0 dX11_isSeated_0 ?_
  refine at_istore_n (lv' := [(3, .int 0), (0, .ref 0), (1, .int p0), (2, .int p1)]) hC rfl dX11_isSeated_1 (by decide) rfl ?_
  refine at_iconst hC ic_0 dX11_isSeated_2 ?_
  refine at_istore (lv' := [(4, .int 0), (3, .int 0), (0, .ref 0), (1, .int p0), (2, .int p1)]) hC dX11_isSeated_3 (by decide) rfl ?_
  refine at_drop (lv' := [(0, .ref 0), (1, .int p0), (2, .int p1), (3, .int 0), (4, .int 0)]) [2, 3, 4, 1, 0] rfl ?_
  exact t_M_isSeated_L5 hC hR σ 100000 p0 p1 0 0
theorem dX11_seat_0 : decode cX11_seat 0 = .ok (.iload_n 1, 1) := by decide +kernel
theorem dX11_seat_1 : decode cX11_seat 1 = .ok (.iconst 0, 1) := by decide +kernel
theorem dX11_seat_2 : decode cX11_seat 2 = .ok (.bipush 10, 2) := by decide +kernel
theorem dX11_seat_4 : decode cX11_seat 4 = .ok (.invokestatic 129, 3) := by decide +kernel
theorem dX11_seat_7 : decode cX11_seat 7 = .ok (.ifCond .ne 6, 3) := by decide +kernel
theorem dX11_seat_10 : decode cX11_seat 10 = .ok (.bipush (-2), 2) := by decide +kernel
theorem dX11_seat_12 : decode cX11_seat 12 = .ok (.ireturn, 1) := by decide +kernel
theorem dX11_seat_13 : decode cX11_seat 13 = .ok (.aload_n 0, 1) := by decide +kernel
theorem dX11_seat_14 : decode cX11_seat 14 = .ok (.getfield 168, 3) := by decide +kernel
theorem dX11_seat_17 : decode cX11_seat 17 = .ok (.ifCond .le 6, 3) := by decide +kernel
theorem dX11_seat_20 : decode cX11_seat 20 = .ok (.bipush (-3), 2) := by decide +kernel
theorem dX11_seat_22 : decode cX11_seat 22 = .ok (.ireturn, 1) := by decide +kernel
theorem dX11_seat_23 : decode cX11_seat 23 = .ok (.aload_n 0, 1) := by decide +kernel
theorem dX11_seat_24 : decode cX11_seat 24 = .ok (.getfield 171, 3) := by decide +kernel
theorem dX11_seat_27 : decode cX11_seat 27 = .ok (.istore_n 2, 1) := by decide +kernel
theorem dX11_seat_28 : decode cX11_seat 28 = .ok (.aload_n 0, 1) := by decide +kernel
theorem dX11_seat_29 : decode cX11_seat 29 = .ok (.iload_n 1, 1) := by decide +kernel
theorem dX11_seat_30 : decode cX11_seat 30 = .ok (.putfield 171, 3) := by decide +kernel
theorem dX11_seat_33 : decode cX11_seat 33 = .ok (.iload_n 2, 1) := by decide +kernel
theorem dX11_seat_34 : decode cX11_seat 34 = .ok (.ireturn, 1) := by decide +kernel
set_option maxRecDepth 100000 in
theorem c_M_seat (σ : MS) (p0 : Int32) : Ct z (wM z τ) rI eqA yX11_seat cX11_seat 3 (some .int) 2 0 0 [.ref 0, .int p0] σ (M_seat σ p0) := by
  refine Ct.of (by decide) (Nat.le_of_ble_eq_true rfl) (fun ad x hC hR _ => ?_)
  show AT z x 3 (wM z τ) rI (eqA ad) 0 0 0 0 ad 0 [(0, .ref 0), (1, .int p0)] [] σ (M_seat σ p0)
  unfold M_seat
  refine at_iload_n (j := 1) hC rfl rfl dX11_seat_0 ?_
  refine at_iconst hC ic_0 dX11_seat_1 ?_
  refine at_bipush hC bi_10 dX11_seat_2 ?_
  refine at_callSpI hC hR lk_X11_129 (c_M_in σ p0 0 10) dX11_seat_4 rfl rfl ⟨by decide, by decide⟩ (Nat.le_of_ble_eq_true rfl) ⟨Nat.le_refl 0, Nat.le_refl 0⟩ (fun r1 _ => ?_)
  refine at_if_ne (tgt := 13) hC dX11_seat_7 rfl (fun _ => ?_) (fun _ => ?_)
  · refine at_aload_n (j := 0) hC rfl rfl dX11_seat_13 ?_
    refine gf_X11_168 hC dX11_seat_14 ?_
    refine at_if_le (tgt := 23) hC dX11_seat_17 rfl (fun _ => ?_) (fun _ => ?_)
    · refine at_aload_n (j := 0) hC rfl rfl dX11_seat_23 ?_
      refine gf_X11_171 hC dX11_seat_24 ?_
      refine at_istore_n (lv' := [(2, .int (σ.1 6)), (0, .ref 0), (1, .int p0)]) hC rfl dX11_seat_27 (by decide) rfl ?_
      refine at_aload_n (j := 1) hC rfl rfl dX11_seat_28 ?_
      refine at_iload_n (j := 2) hC rfl rfl dX11_seat_29 ?_
      refine pf_X11_171 hC dX11_seat_30 ?_
      refine at_iload_n (j := 0) hC rfl rfl dX11_seat_33 ?_
      exact at_iret (F := eqA ad) (ra := rI) hC dX11_seat_34 rfl (Nat.le_refl 0) (Nat.le_refl 0) rfl
    · refine at_bipush hC bi_m3 dX11_seat_20 ?_
      exact at_iret (F := eqA ad) (ra := rI) hC dX11_seat_22 rfl (Nat.le_refl 0) (Nat.le_refl 0) rfl
  · refine at_bipush hC bi_m2 dX11_seat_10 ?_
    exact at_iret (F := eqA ad) (ra := rI) hC dX11_seat_12 rfl (Nat.le_refl 0) (Nat.le_refl 0) rfl
end G
