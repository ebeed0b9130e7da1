section G
variable {z : ZZ} {x : XX} {ad : Nat → Nat} {τ : XS}
theorem dX11_count_0 : decode cX11_count 0 = .ok (.iload_n 1, 1) := by decide +kernel
theorem dX11_count_1 : decode cX11_count 1 = .ok (.tableswitch 96 0 8 #[51, 56, 61, 66, 71, 76, 81, 86, 91], 51) := by decide +kernel
theorem dX11_count_52 : decode cX11_count 52 = .ok (.aload_n 0, 1) := by decide +kernel
theorem dX11_count_53 : decode cX11_count 53 = .ok (.getfield 126, 3) := by decide +kernel
theorem dX11_count_56 : decode cX11_count 56 = .ok (.ireturn, 1) := by decide +kernel
theorem dX11_count_57 : decode cX11_count 57 = .ok (.aload_n 0, 1) := by decide +kernel
theorem dX11_count_58 : decode cX11_count 58 = .ok (.getfield 137, 3) := by decide +kernel
theorem dX11_count_61 : decode cX11_count 61 = .ok (.ireturn, 1) := by decide +kernel
theorem dX11_count_62 : decode cX11_count 62 = .ok (.aload_n 0, 1) := by decide +kernel
theorem dX11_count_63 : decode cX11_count 63 = .ok (.getfield 326, 3) := by decide +kernel
theorem dX11_count_66 : decode cX11_count 66 = .ok (.ireturn, 1) := by decide +kernel
theorem dX11_count_67 : decode cX11_count 67 = .ok (.aload_n 0, 1) := by decide +kernel
theorem dX11_count_68 : decode cX11_count 68 = .ok (.getfield 171, 3) := by decide +kernel
theorem dX11_count_71 : decode cX11_count 71 = .ok (.ireturn, 1) := by decide +kernel
theorem dX11_count_72 : decode cX11_count 72 = .ok (.aload_n 0, 1) := by decide +kernel
theorem dX11_count_73 : decode cX11_count 73 = .ok (.getfield 417, 3) := by decide +kernel
theorem dX11_count_76 : decode cX11_count 76 = .ok (.ireturn, 1) := by decide +kernel
theorem dX11_count_77 : decode cX11_count 77 = .ok (.aload_n 0, 1) := by decide +kernel
theorem dX11_count_78 : decode cX11_count 78 = .ok (.getfield 441, 3) := by decide +kernel
theorem dX11_count_81 : decode cX11_count 81 = .ok (.ireturn, 1) := by decide +kernel
theorem dX11_count_82 : decode cX11_count 82 = .ok (.aload_n 0, 1) := by decide +kernel
theorem dX11_count_83 : decode cX11_count 83 = .ok (.getfield 444, 3) := by decide +kernel
theorem dX11_count_86 : decode cX11_count 86 = .ok (.ireturn, 1) := by decide +kernel
theorem dX11_count_87 : decode cX11_count 87 = .ok (.aload_n 0, 1) := by decide +kernel
theorem dX11_count_88 : decode cX11_count 88 = .ok (.getfield 224, 3) := by decide +kernel
theorem dX11_count_91 : decode cX11_count 91 = .ok (.ireturn, 1) := by decide +kernel
theorem dX11_count_92 : decode cX11_count 92 = .ok (.aload_n 0, 1) := by decide +kernel
theorem dX11_count_93 : decode cX11_count 93 = .ok (.getfield 88, 3) := by decide +kernel
theorem dX11_count_96 : decode cX11_count 96 = .ok (.ireturn, 1) := by decide +kernel
theorem dX11_count_97 : decode cX11_count 97 = .ok (.iconst (-1), 1) := by decide +kernel
theorem dX11_count_98 : decode cX11_count 98 = .ok (.ireturn, 1) := by decide +kernel
set_option maxRecDepth 100000 in
theorem c_M_count (σ : MS) (p0 : Int32) : Ct z (wM z τ) rI eqA yX11_count cX11_count 2 (some .int) 1 0 0 [.ref 0, .int p0] σ ((M_count σ p0).map fun r => (r, σ)) := by
  refine Ct.of (by decide) (Nat.le_of_ble_eq_true rfl) (fun ad x hC hR _ => ?_)
  show AT z x 2 (wM z τ) rI (eqA ad) 0 0 0 0 ad 0 [(0, .ref 0), (1, .int p0)] [] σ ((M_count σ p0).map fun r => (r, σ))
  unfold M_count
  refine at_iload_n (j := 1) hC rfl rfl dX11_count_0 ?_
  refine ap_sw (off := 51) (tgt := 52) (v := 0) hC 0 dX11_count_1 rfl rfl (by decide) (by decide) swp0 ?_ (fun hp0 => ?_)
  · refine at_aload_n (j := 0) hC rfl rfl dX11_count_52 ?_
    refine gf_X11_126 hC dX11_count_53 ?_
    exact at_iret (F := eqA ad) (ra := rI) hC dX11_count_56 rfl (Nat.le_refl 0) (Nat.le_refl 0) rfl
  refine ap_sw (off := 56) (tgt := 57) (v := 1) hC 1 dX11_count_1 rfl rfl (by decide) (by decide) hp0 ?_ (fun hp1 => ?_)
  · refine at_aload_n (j := 0) hC rfl rfl dX11_count_57 ?_
    refine gf_X11_137 hC dX11_count_58 ?_
    exact at_iret (F := eqA ad) (ra := rI) hC dX11_count_61 rfl (Nat.le_refl 0) (Nat.le_refl 0) rfl
  refine ap_sw (off := 61) (tgt := 62) (v := 2) hC 2 dX11_count_1 rfl rfl (by decide) (by decide) hp1 ?_ (fun hp2 => ?_)
  · refine at_aload_n (j := 0) hC rfl rfl dX11_count_62 ?_
    refine gf_X11_326 hC dX11_count_63 ?_
    exact at_iret (F := eqA ad) (ra := rI) hC dX11_count_66 rfl (Nat.le_refl 0) (Nat.le_refl 0) rfl
  refine ap_sw (off := 66) (tgt := 67) (v := 3) hC 3 dX11_count_1 rfl rfl (by decide) (by decide) hp2 ?_ (fun hp3 => ?_)
  · refine at_aload_n (j := 0) hC rfl rfl dX11_count_67 ?_
    refine gf_X11_171 hC dX11_count_68 ?_
    exact at_iret (F := eqA ad) (ra := rI) hC dX11_count_71 rfl (Nat.le_refl 0) (Nat.le_refl 0) rfl
  refine ap_sw (off := 71) (tgt := 72) (v := 4) hC 4 dX11_count_1 rfl rfl (by decide) (by decide) hp3 ?_ (fun hp4 => ?_)
  · refine at_aload_n (j := 0) hC rfl rfl dX11_count_72 ?_
    refine gf_X11_417 hC dX11_count_73 ?_
    exact at_iret (F := eqA ad) (ra := rI) hC dX11_count_76 rfl (Nat.le_refl 0) (Nat.le_refl 0) rfl
  refine ap_sw (off := 76) (tgt := 77) (v := 5) hC 5 dX11_count_1 rfl rfl (by decide) (by decide) hp4 ?_ (fun hp5 => ?_)
  · refine at_aload_n (j := 0) hC rfl rfl dX11_count_77 ?_
    refine gf_X11_441 hC dX11_count_78 ?_
    exact at_iret (F := eqA ad) (ra := rI) hC dX11_count_81 rfl (Nat.le_refl 0) (Nat.le_refl 0) rfl
  refine ap_sw (off := 81) (tgt := 82) (v := 6) hC 6 dX11_count_1 rfl rfl (by decide) (by decide) hp5 ?_ (fun hp6 => ?_)
  · refine at_aload_n (j := 0) hC rfl rfl dX11_count_82 ?_
    refine gf_X11_444 hC dX11_count_83 ?_
    exact at_iret (F := eqA ad) (ra := rI) hC dX11_count_86 rfl (Nat.le_refl 0) (Nat.le_refl 0) rfl
  refine ap_sw (off := 86) (tgt := 87) (v := 7) hC 7 dX11_count_1 rfl rfl (by decide) (by decide) hp6 ?_ (fun hp7 => ?_)
  · refine at_aload_n (j := 0) hC rfl rfl dX11_count_87 ?_
    refine gf_X11_224 hC dX11_count_88 ?_
    exact at_iret (F := eqA ad) (ra := rI) hC dX11_count_91 rfl (Nat.le_refl 0) (Nat.le_refl 0) rfl
  refine ap_sw (off := 91) (tgt := 92) (v := 8) hC 8 dX11_count_1 rfl rfl (by decide) (by decide) hp7 ?_ (fun hp8 => ?_)
  · refine at_aload_n (j := 0) hC rfl rfl dX11_count_92 ?_
    refine gf_X11_88 hC dX11_count_93 ?_
    exact at_iret (F := eqA ad) (ra := rI) hC dX11_count_96 rfl (Nat.le_refl 0) (Nat.le_refl 0) rfl
  refine at_swd (tgt := 97) hC 9 dX11_count_1 rfl (by decide) hp8 ?_
  refine at_iconst hC ic_m1 dX11_count_97 ?_
  exact at_iret (F := eqA ad) (ra := rI) hC dX11_count_98 rfl (Nat.le_refl 0) (Nat.le_refl 0) rfl
end G
