theorem dL_law_580 : decode code 580 = .ok (.aload_n 1, 1) := by decide +kernel
theorem dL_law_581 : decode code 581 = .ok (.aload_n 0, 1) := by decide +kernel
theorem dL_law_582 : decode code 582 = .ok (.iload_n 3, 1) := by decide +kernel
theorem dL_law_583 : decode code 583 = .ok (.iconst 1, 1) := by decide +kernel
theorem dL_law_584 : decode code 584 = .ok (.iadd, 1) := by decide +kernel
theorem dL_law_585 : decode code 585 = .ok (.iaload, 1) := by decide +kernel
theorem dL_law_586 : decode code 586 = .ok (.aload_n 0, 1) := by decide +kernel
theorem dL_law_587 : decode code 587 = .ok (.iload_n 3, 1) := by decide +kernel
theorem dL_law_588 : decode code 588 = .ok (.iconst 2, 1) := by decide +kernel
theorem dL_law_589 : decode code 589 = .ok (.iadd, 1) := by decide +kernel
theorem dL_law_590 : decode code 590 = .ok (.iaload, 1) := by decide +kernel
theorem dL_law_591 : decode code 591 = .ok (.aload_n 0, 1) := by decide +kernel
theorem dL_law_592 : decode code 592 = .ok (.iload_n 3, 1) := by decide +kernel
theorem dL_law_593 : decode code 593 = .ok (.iconst 3, 1) := by decide +kernel
theorem dL_law_594 : decode code 594 = .ok (.iadd, 1) := by decide +kernel
theorem dL_law_595 : decode code 595 = .ok (.iaload, 1) := by decide +kernel
theorem dL_law_596 : decode code 596 = .ok (.invokevirtual 50, 3) := by decide +kernel
theorem dL_law_599 : decode code 599 = .ok (.aload_n 2, 1) := by decide +kernel
theorem dL_law_600 : decode code 600 = .ok (.aload_n 0, 1) := by decide +kernel
theorem dL_law_601 : decode code 601 = .ok (.iload_n 3, 1) := by decide +kernel
theorem dL_law_602 : decode code 602 = .ok (.iconst 1, 1) := by decide +kernel
theorem dL_law_603 : decode code 603 = .ok (.iadd, 1) := by decide +kernel
theorem dL_law_604 : decode code 604 = .ok (.iaload, 1) := by decide +kernel
theorem dL_law_605 : decode code 605 = .ok (.aload_n 0, 1) := by decide +kernel
theorem dL_law_606 : decode code 606 = .ok (.iload_n 3, 1) := by decide +kernel
theorem dL_law_607 : decode code 607 = .ok (.iconst 2, 1) := by decide +kernel
theorem dL_law_608 : decode code 608 = .ok (.iadd, 1) := by decide +kernel
theorem dL_law_609 : decode code 609 = .ok (.iaload, 1) := by decide +kernel
theorem dL_law_610 : decode code 610 = .ok (.aload_n 0, 1) := by decide +kernel
theorem dL_law_611 : decode code 611 = .ok (.iload_n 3, 1) := by decide +kernel
theorem dL_law_612 : decode code 612 = .ok (.iconst 3, 1) := by decide +kernel
theorem dL_law_613 : decode code 613 = .ok (.iadd, 1) := by decide +kernel
theorem dL_law_614 : decode code 614 = .ok (.iaload, 1) := by decide +kernel
theorem dL_law_615 : decode code 615 = .ok (.invokevirtual 53, 3) := by decide +kernel
theorem dL_law_618 : decode code 618 = .ok (.if_icmp .eq 1533, 3) := by decide +kernel
theorem dL_law_621 : decode code 621 = .ok (.iconst 0, 1) := by decide +kernel
theorem dL_law_622 : decode code 622 = .ok (.ireturn, 1) := by decide +kernel
set_option maxRecDepth 100000 in
theorem law_c8 {z : ZZ} {x : XX} {Q : State → Prop} {k n : Nat} {ad : Nat → Nat} {b L i x0 m0 : Nat} {xs : Nat → Int32} {σ σ1 : MS} {τ τ1 : XS} {r : Int32} (hC : CX z ad x code RL 4 ret) (hR : x.2.2.1 = room_1) (hX : SX z x b L xs) (hx0 : ad 36 = x0) (hm0 : ad 0 = m0) (hi : i + 4 < L) (hk : k + 0 ≤ 600000 ∧ n + 0 ≤ 7302250) (hW : W_pay τ (xs (i + 1)) (xs (i + 2)) (xs (i + 3)) = some (r, τ1)) (hM : M_pay σ (xs (i + 1)) (xs (i + 2)) (xs (i + 3)) = some (r, σ1)) (kk : ∀ ad2, exL ad ad2 → AL z x 4 Q (k + 0 + 0) (n + 0 + 0) 2151 [(3, .int (Int32.ofNat i)), (1, .ref x0), (2, .ref m0), (0, .ref b)] [] (wX z σ1 ad2 τ1)) : AL z x 4 Q k n 580 [(3, .int (Int32.ofNat i)), (1, .ref x0), (2, .ref m0), (0, .ref b)] [] (wX z σ ad τ) := by
  refine al_aload_n (j := 1) hC rfl rfl dL_law_580 ?_
  refine al_aload_n (j := 3) hC rfl rfl dL_law_581 ?_
  refine al_iload_n (j := 0) hC rfl rfl dL_law_582 ?_
  refine al_iconst (v := 1) hC rfl dL_law_583 ?_
  refine al_iadd hC dL_law_584 ?_
  refine al_sld (j := i + 1) hC hX (Int32.ofNat_add i 1).symm (by omega) dL_law_585 ?_
  refine al_aload_n (j := 3) hC rfl rfl dL_law_586 ?_
  refine al_iload_n (j := 0) hC rfl rfl dL_law_587 ?_
  refine al_iconst (v := 2) hC rfl dL_law_588 ?_
  refine al_iadd hC dL_law_589 ?_
  refine al_sld (j := i + 2) hC hX (Int32.ofNat_add i 2).symm (by omega) dL_law_590 ?_
  refine al_aload_n (j := 3) hC rfl rfl dL_law_591 ?_
  refine al_iload_n (j := 0) hC rfl rfl dL_law_592 ?_
  refine al_iconst (v := 3) hC rfl dL_law_593 ?_
  refine al_iadd hC dL_law_594 ?_
  refine al_sld (j := i + 3) hC hX (Int32.ofNat_add i 3).symm (by omega) dL_law_595 ?_
  refine al_callL (w := wX z σ) (As := [.int (xs (i + 1)), .int (xs (i + 2)), .int (xs (i + 3))]) (rest := []) (s0 := τ) (s1 := τ1) (r0 := r) (q := 36) hC hR lkl_50 (c_W_pay τ (xs (i + 1)) (xs (i + 2)) (xs (i + 3))) hW (fun _ _ h => eqA.L h) dL_law_596 recX10 rfl rfl hx0 rfl ⟨by decide, by decide⟩ (Nat.le_of_ble_eq_true rfl) ⟨by omega, by omega⟩ ⟨_, rfl, fun _ => rfl⟩ (fun ad1 hE1 hC => ?_)
  have hm0 := (hE1 0 (by omega)).trans hm0
  show AL z x 4 Q (k + 0) (n + 0) _ _ _ (wM z τ1 ad1 σ)
  refine al_aload_n (j := 2) hC rfl rfl dL_law_599 ?_
  refine al_aload_n (j := 3) hC rfl rfl dL_law_600 ?_
  refine al_iload_n (j := 0) hC rfl rfl dL_law_601 ?_
  refine al_iconst (v := 1) hC rfl dL_law_602 ?_
  refine al_iadd hC dL_law_603 ?_
  refine al_sld (j := i + 1) hC hX (Int32.ofNat_add i 1).symm (by omega) dL_law_604 ?_
  refine al_aload_n (j := 3) hC rfl rfl dL_law_605 ?_
  refine al_iload_n (j := 0) hC rfl rfl dL_law_606 ?_
  refine al_iconst (v := 2) hC rfl dL_law_607 ?_
  refine al_iadd hC dL_law_608 ?_
  refine al_sld (j := i + 2) hC hX (Int32.ofNat_add i 2).symm (by omega) dL_law_609 ?_
  refine al_aload_n (j := 3) hC rfl rfl dL_law_610 ?_
  refine al_iload_n (j := 0) hC rfl rfl dL_law_611 ?_
  refine al_iconst (v := 3) hC rfl dL_law_612 ?_
  refine al_iadd hC dL_law_613 ?_
  refine al_sld (j := i + 3) hC hX (Int32.ofNat_add i 3).symm (by omega) dL_law_614 ?_
  refine al_callL (w := wM z τ1) (As := [.int (xs (i + 1)), .int (xs (i + 2)), .int (xs (i + 3))]) (rest := [.int r]) (s0 := σ) (s1 := σ1) (r0 := r) (q := 0) hC hR lkl_53 (c_M_pay σ (xs (i + 1)) (xs (i + 2)) (xs (i + 3))) hM (fun _ _ h => eqA.L h) dL_law_615 recX11 rfl rfl hm0 rfl ⟨by decide, by decide⟩ (Nat.le_of_ble_eq_true rfl) ⟨by omega, by omega⟩ ⟨_, rfl, fun _ => rfl⟩ (fun ad2 hE2 hC => ?_)
  show AL z x 4 Q _ _ _ _ _ (wX z σ1 ad2 τ1)
  refine al_icmp_eq (tgt := 2151) hC dL_law_618 rfl (fun _ => ?_) (fun g => absurd rfl g)
  exact kk ad2 (hE1.trans hE2)
theorem dL_law_623 : decode code 623 = .ok (.aload_n 1, 1) := by decide +kernel
theorem dL_law_624 : decode code 624 = .ok (.aload_n 0, 1) := by decide +kernel
theorem dL_law_625 : decode code 625 = .ok (.iload_n 3, 1) := by decide +kernel
theorem dL_law_626 : decode code 626 = .ok (.iconst 1, 1) := by decide +kernel
theorem dL_law_627 : decode code 627 = .ok (.iadd, 1) := by decide +kernel
theorem dL_law_628 : decode code 628 = .ok (.iaload, 1) := by decide +kernel
theorem dL_law_629 : decode code 629 = .ok (.invokevirtual 54, 3) := by decide +kernel
theorem dL_law_632 : decode code 632 = .ok (.aload_n 2, 1) := by decide +kernel
theorem dL_law_633 : decode code 633 = .ok (.aload_n 0, 1) := by decide +kernel
theorem dL_law_634 : decode code 634 = .ok (.iload_n 3, 1) := by decide +kernel
theorem dL_law_635 : decode code 635 = .ok (.iconst 1, 1) := by decide +kernel
theorem dL_law_636 : decode code 636 = .ok (.iadd, 1) := by decide +kernel
theorem dL_law_637 : decode code 637 = .ok (.iaload, 1) := by decide +kernel
theorem dL_law_638 : decode code 638 = .ok (.invokevirtual 57, 3) := by decide +kernel
theorem dL_law_641 : decode code 641 = .ok (.if_icmp .eq 1510, 3) := by decide +kernel
theorem dL_law_644 : decode code 644 = .ok (.iconst 0, 1) := by decide +kernel
theorem dL_law_645 : decode code 645 = .ok (.ireturn, 1) := by decide +kernel
set_option maxRecDepth 100000 in
theorem law_c9 {z : ZZ} {x : XX} {Q : State → Prop} {k n : Nat} {ad : Nat → Nat} {b L i x0 m0 : Nat} {xs : Nat → Int32} {σ σ1 : MS} {τ τ1 : XS} {r : Int32} (hC : CX z ad x code RL 4 ret) (hR : x.2.2.1 = room_1) (hX : SX z x b L xs) (hx0 : ad 36 = x0) (hm0 : ad 0 = m0) (hi : i + 4 < L) (hk : k + 0 ≤ 600000 ∧ n + 0 ≤ 7302250) (hW : W_strike τ (xs (i + 1)) = some (r, τ1)) (hM : M_strike σ (xs (i + 1)) = some (r, σ1)) (kk : ∀ ad2, exL ad ad2 → AL z x 4 Q (k + 0 + 0) (n + 0 + 0) 2151 [(3, .int (Int32.ofNat i)), (1, .ref x0), (2, .ref m0), (0, .ref b)] [] (wX z σ1 ad2 τ1)) : AL z x 4 Q k n 623 [(3, .int (Int32.ofNat i)), (1, .ref x0), (2, .ref m0), (0, .ref b)] [] (wX z σ ad τ) := by
  refine al_aload_n (j := 1) hC rfl rfl dL_law_623 ?_
  refine al_aload_n (j := 3) hC rfl rfl dL_law_624 ?_
  refine al_iload_n (j := 0) hC rfl rfl dL_law_625 ?_
  refine al_iconst (v := 1) hC rfl dL_law_626 ?_
  refine al_iadd hC dL_law_627 ?_
  refine al_sld (j := i + 1) hC hX (Int32.ofNat_add i 1).symm (by omega) dL_law_628 ?_
  refine al_callL (w := wX z σ) (As := [.int (xs (i + 1))]) (rest := []) (s0 := τ) (s1 := τ1) (r0 := r) (q := 36) hC hR lkl_54 (c_W_strike τ (xs (i + 1))) hW (fun _ _ h => eqA.L h) dL_law_629 recX10 rfl rfl hx0 rfl ⟨by decide, by decide⟩ (Nat.le_of_ble_eq_true rfl) ⟨by omega, by omega⟩ ⟨_, rfl, fun _ => rfl⟩ (fun ad1 hE1 hC => ?_)
  have hm0 := (hE1 0 (by omega)).trans hm0
  show AL z x 4 Q (k + 0) (n + 0) _ _ _ (wM z τ1 ad1 σ)
  refine al_aload_n (j := 2) hC rfl rfl dL_law_632 ?_
  refine al_aload_n (j := 3) hC rfl rfl dL_law_633 ?_
  refine al_iload_n (j := 0) hC rfl rfl dL_law_634 ?_
  refine al_iconst (v := 1) hC rfl dL_law_635 ?_
  refine al_iadd hC dL_law_636 ?_
  refine al_sld (j := i + 1) hC hX (Int32.ofNat_add i 1).symm (by omega) dL_law_637 ?_
  refine al_callL (w := wM z τ1) (As := [.int (xs (i + 1))]) (rest := [.int r]) (s0 := σ) (s1 := σ1) (r0 := r) (q := 0) hC hR lkl_57 (c_M_strike σ (xs (i + 1))) hM (fun _ _ h => eqA.L h) dL_law_638 recX11 rfl rfl hm0 rfl ⟨by decide, by decide⟩ (Nat.le_of_ble_eq_true rfl) ⟨by omega, by omega⟩ ⟨_, rfl, fun _ => rfl⟩ (fun ad2 hE2 hC => ?_)
  show AL z x 4 Q _ _ _ _ _ (wX z σ1 ad2 τ1)
  refine al_icmp_eq (tgt := 2151) hC dL_law_641 rfl (fun _ => ?_) (fun g => absurd rfl g)
  exact kk ad2 (hE1.trans hE2)
theorem dL_law_646 : decode code 646 = .ok (.aload_n 1, 1) := by decide +kernel
theorem dL_law_647 : decode code 647 = .ok (.aload_n 0, 1) := by decide +kernel
theorem dL_law_648 : decode code 648 = .ok (.iload_n 3, 1) := by decide +kernel
theorem dL_law_649 : decode code 649 = .ok (.iconst 1, 1) := by decide +kernel
theorem dL_law_650 : decode code 650 = .ok (.iadd, 1) := by decide +kernel
theorem dL_law_651 : decode code 651 = .ok (.iaload, 1) := by decide +kernel
theorem dL_law_652 : decode code 652 = .ok (.aload_n 0, 1) := by decide +kernel
theorem dL_law_653 : decode code 653 = .ok (.iload_n 3, 1) := by decide +kernel
theorem dL_law_654 : decode code 654 = .ok (.iconst 2, 1) := by decide +kernel
theorem dL_law_655 : decode code 655 = .ok (.iadd, 1) := by decide +kernel
theorem dL_law_656 : decode code 656 = .ok (.iaload, 1) := by decide +kernel
theorem dL_law_657 : decode code 657 = .ok (.invokevirtual 58, 3) := by decide +kernel
theorem dL_law_660 : decode code 660 = .ok (.aload_n 2, 1) := by decide +kernel
theorem dL_law_661 : decode code 661 = .ok (.aload_n 0, 1) := by decide +kernel
theorem dL_law_662 : decode code 662 = .ok (.iload_n 3, 1) := by decide +kernel
theorem dL_law_663 : decode code 663 = .ok (.iconst 1, 1) := by decide +kernel
theorem dL_law_664 : decode code 664 = .ok (.iadd, 1) := by decide +kernel
theorem dL_law_665 : decode code 665 = .ok (.iaload, 1) := by decide +kernel
theorem dL_law_666 : decode code 666 = .ok (.aload_n 0, 1) := by decide +kernel
theorem dL_law_667 : decode code 667 = .ok (.iload_n 3, 1) := by decide +kernel
theorem dL_law_668 : decode code 668 = .ok (.iconst 2, 1) := by decide +kernel
theorem dL_law_669 : decode code 669 = .ok (.iadd, 1) := by decide +kernel
theorem dL_law_670 : decode code 670 = .ok (.iaload, 1) := by decide +kernel
theorem dL_law_671 : decode code 671 = .ok (.invokevirtual 61, 3) := by decide +kernel
theorem dL_law_674 : decode code 674 = .ok (.if_icmp .eq 1477, 3) := by decide +kernel
theorem dL_law_677 : decode code 677 = .ok (.iconst 0, 1) := by decide +kernel
theorem dL_law_678 : decode code 678 = .ok (.ireturn, 1) := by decide +kernel
set_option maxRecDepth 100000 in
theorem law_c10 {z : ZZ} {x : XX} {Q : State → Prop} {k n : Nat} {ad : Nat → Nat} {b L i x0 m0 : Nat} {xs : Nat → Int32} {σ σ1 : MS} {τ τ1 : XS} {r : Int32} (hC : CX z ad x code RL 4 ret) (hR : x.2.2.1 = room_1) (hX : SX z x b L xs) (hx0 : ad 36 = x0) (hm0 : ad 0 = m0) (hi : i + 4 < L) (hk : k + 0 ≤ 600000 ∧ n + 0 ≤ 7302250) (eτ : τ = τ1) (eσ : σ = σ1) (hW : W_known τ (xs (i + 1)) (xs (i + 2)) = some r) (hM : M_known σ (xs (i + 1)) (xs (i + 2)) = some r) (kk : ∀ ad2, exL ad ad2 → AL z x 4 Q (k + 0 + 0) (n + 0 + 0) 2151 [(3, .int (Int32.ofNat i)), (1, .ref x0), (2, .ref m0), (0, .ref b)] [] (wX z σ1 ad2 τ1)) : AL z x 4 Q k n 646 [(3, .int (Int32.ofNat i)), (1, .ref x0), (2, .ref m0), (0, .ref b)] [] (wX z σ ad τ) := by
  subst eτ
  subst eσ
  refine al_aload_n (j := 1) hC rfl rfl dL_law_646 ?_
  refine al_aload_n (j := 3) hC rfl rfl dL_law_647 ?_
  refine al_iload_n (j := 0) hC rfl rfl dL_law_648 ?_
  refine al_iconst (v := 1) hC rfl dL_law_649 ?_
  refine al_iadd hC dL_law_650 ?_
  refine al_sld (j := i + 1) hC hX (Int32.ofNat_add i 1).symm (by omega) dL_law_651 ?_
  refine al_aload_n (j := 3) hC rfl rfl dL_law_652 ?_
  refine al_iload_n (j := 0) hC rfl rfl dL_law_653 ?_
  refine al_iconst (v := 2) hC rfl dL_law_654 ?_
  refine al_iadd hC dL_law_655 ?_
  refine al_sld (j := i + 2) hC hX (Int32.ofNat_add i 2).symm (by omega) dL_law_656 ?_
  refine al_callL (w := wX z σ) (As := [.int (xs (i + 1)), .int (xs (i + 2))]) (rest := []) (s0 := τ) (s1 := τ) (r0 := r) (q := 36) hC hR lkl_58 (c_W_known τ (xs (i + 1)) (xs (i + 2))) (by rw [hW]; rfl) (fun _ _ h => eqA.L h) dL_law_657 recX10 rfl rfl hx0 rfl ⟨by decide, by decide⟩ (Nat.le_of_ble_eq_true rfl) ⟨by omega, by omega⟩ ⟨_, rfl, fun _ => rfl⟩ (fun ad1 hE1 hC => ?_)
  have hm0 := (hE1 0 (by omega)).trans hm0
  show AL z x 4 Q (k + 0) (n + 0) _ _ _ (wM z τ ad1 σ)
  refine al_aload_n (j := 2) hC rfl rfl dL_law_660 ?_
  refine al_aload_n (j := 3) hC rfl rfl dL_law_661 ?_
  refine al_iload_n (j := 0) hC rfl rfl dL_law_662 ?_
  refine al_iconst (v := 1) hC rfl dL_law_663 ?_
  refine al_iadd hC dL_law_664 ?_
  refine al_sld (j := i + 1) hC hX (Int32.ofNat_add i 1).symm (by omega) dL_law_665 ?_
  refine al_aload_n (j := 3) hC rfl rfl dL_law_666 ?_
  refine al_iload_n (j := 0) hC rfl rfl dL_law_667 ?_
  refine al_iconst (v := 2) hC rfl dL_law_668 ?_
  refine al_iadd hC dL_law_669 ?_
  refine al_sld (j := i + 2) hC hX (Int32.ofNat_add i 2).symm (by omega) dL_law_670 ?_
  refine al_callL (w := wM z τ) (As := [.int (xs (i + 1)), .int (xs (i + 2))]) (rest := [.int r]) (s0 := σ) (s1 := σ) (r0 := r) (q := 0) hC hR lkl_61 (c_M_known σ (xs (i + 1)) (xs (i + 2))) (by rw [hM]; rfl) (fun _ _ h => eqA.L h) dL_law_671 recX11 rfl rfl hm0 rfl ⟨by decide, by decide⟩ (Nat.le_of_ble_eq_true rfl) ⟨by omega, by omega⟩ ⟨_, rfl, fun _ => rfl⟩ (fun ad2 hE2 hC => ?_)
  show AL z x 4 Q _ _ _ _ _ (wX z σ ad2 τ)
  refine al_icmp_eq (tgt := 2151) hC dL_law_674 rfl (fun _ => ?_) (fun g => absurd rfl g)
  exact kk ad2 (hE1.trans hE2)
theorem dL_law_679 : decode code 679 = .ok (.aload_n 1, 1) := by decide +kernel
theorem dL_law_680 : decode code 680 = .ok (.aload_n 0, 1) := by decide +kernel
theorem dL_law_681 : decode code 681 = .ok (.iload_n 3, 1) := by decide +kernel
theorem dL_law_682 : decode code 682 = .ok (.iconst 1, 1) := by decide +kernel
theorem dL_law_683 : decode code 683 = .ok (.iadd, 1) := by decide +kernel
theorem dL_law_684 : decode code 684 = .ok (.iaload, 1) := by decide +kernel
theorem dL_law_685 : decode code 685 = .ok (.aload_n 0, 1) := by decide +kernel
theorem dL_law_686 : decode code 686 = .ok (.iload_n 3, 1) := by decide +kernel
theorem dL_law_687 : decode code 687 = .ok (.iconst 2, 1) := by decide +kernel
theorem dL_law_688 : decode code 688 = .ok (.iadd, 1) := by decide +kernel
theorem dL_law_689 : decode code 689 = .ok (.iaload, 1) := by decide +kernel
theorem dL_law_690 : decode code 690 = .ok (.aload_n 0, 1) := by decide +kernel
theorem dL_law_691 : decode code 691 = .ok (.iload_n 3, 1) := by decide +kernel
theorem dL_law_692 : decode code 692 = .ok (.iconst 3, 1) := by decide +kernel
theorem dL_law_693 : decode code 693 = .ok (.iadd, 1) := by decide +kernel
theorem dL_law_694 : decode code 694 = .ok (.iaload, 1) := by decide +kernel
theorem dL_law_695 : decode code 695 = .ok (.invokevirtual 62, 3) := by decide +kernel
theorem dL_law_698 : decode code 698 = .ok (.aload_n 2, 1) := by decide +kernel
theorem dL_law_699 : decode code 699 = .ok (.aload_n 0, 1) := by decide +kernel
theorem dL_law_700 : decode code 700 = .ok (.iload_n 3, 1) := by decide +kernel
theorem dL_law_701 : decode code 701 = .ok (.iconst 1, 1) := by decide +kernel
theorem dL_law_702 : decode code 702 = .ok (.iadd, 1) := by decide +kernel
theorem dL_law_703 : decode code 703 = .ok (.iaload, 1) := by decide +kernel
theorem dL_law_704 : decode code 704 = .ok (.aload_n 0, 1) := by decide +kernel
theorem dL_law_705 : decode code 705 = .ok (.iload_n 3, 1) := by decide +kernel
theorem dL_law_706 : decode code 706 = .ok (.iconst 2, 1) := by decide +kernel
theorem dL_law_707 : decode code 707 = .ok (.iadd, 1) := by decide +kernel
theorem dL_law_708 : decode code 708 = .ok (.iaload, 1) := by decide +kernel
theorem dL_law_709 : decode code 709 = .ok (.aload_n 0, 1) := by decide +kernel
theorem dL_law_710 : decode code 710 = .ok (.iload_n 3, 1) := by decide +kernel
theorem dL_law_711 : decode code 711 = .ok (.iconst 3, 1) := by decide +kernel
theorem dL_law_712 : decode code 712 = .ok (.iadd, 1) := by decide +kernel
theorem dL_law_713 : decode code 713 = .ok (.iaload, 1) := by decide +kernel
theorem dL_law_714 : decode code 714 = .ok (.invokevirtual 65, 3) := by decide +kernel
theorem dL_law_717 : decode code 717 = .ok (.if_icmp .eq 1434, 3) := by decide +kernel
theorem dL_law_720 : decode code 720 = .ok (.iconst 0, 1) := by decide +kernel
theorem dL_law_721 : decode code 721 = .ok (.ireturn, 1) := by decide +kernel
set_option maxRecDepth 100000 in
theorem law_c11 {z : ZZ} {x : XX} {Q : State → Prop} {k n : Nat} {ad : Nat → Nat} {b L i x0 m0 : Nat} {xs : Nat → Int32} {σ σ1 : MS} {τ τ1 : XS} {r : Int32} (hC : CX z ad x code RL 4 ret) (hR : x.2.2.1 = room_1) (hX : SX z x b L xs) (hx0 : ad 36 = x0) (hm0 : ad 0 = m0) (hi : i + 4 < L) (hk : k + 0 ≤ 600000 ∧ n + 0 ≤ 7302250) (hW : W_as τ (xs (i + 1)) (xs (i + 2)) (xs (i + 3)) = some (r, τ1)) (hM : M_as σ (xs (i + 1)) (xs (i + 2)) (xs (i + 3)) = some (r, σ1)) (kk : ∀ ad2, exL ad ad2 → AL z x 4 Q (k + 0 + 0) (n + 0 + 0) 2151 [(3, .int (Int32.ofNat i)), (1, .ref x0), (2, .ref m0), (0, .ref b)] [] (wX z σ1 ad2 τ1)) : AL z x 4 Q k n 679 [(3, .int (Int32.ofNat i)), (1, .ref x0), (2, .ref m0), (0, .ref b)] [] (wX z σ ad τ) := by
  refine al_aload_n (j := 1) hC rfl rfl dL_law_679 ?_
  refine al_aload_n (j := 3) hC rfl rfl dL_law_680 ?_
  refine al_iload_n (j := 0) hC rfl rfl dL_law_681 ?_
  refine al_iconst (v := 1) hC rfl dL_law_682 ?_
  refine al_iadd hC dL_law_683 ?_
  refine al_sld (j := i + 1) hC hX (Int32.ofNat_add i 1).symm (by omega) dL_law_684 ?_
  refine al_aload_n (j := 3) hC rfl rfl dL_law_685 ?_
  refine al_iload_n (j := 0) hC rfl rfl dL_law_686 ?_
  refine al_iconst (v := 2) hC rfl dL_law_687 ?_
  refine al_iadd hC dL_law_688 ?_
  refine al_sld (j := i + 2) hC hX (Int32.ofNat_add i 2).symm (by omega) dL_law_689 ?_
  refine al_aload_n (j := 3) hC rfl rfl dL_law_690 ?_
  refine al_iload_n (j := 0) hC rfl rfl dL_law_691 ?_
  refine al_iconst (v := 3) hC rfl dL_law_692 ?_
  refine al_iadd hC dL_law_693 ?_
  refine al_sld (j := i + 3) hC hX (Int32.ofNat_add i 3).symm (by omega) dL_law_694 ?_
  refine al_callL (w := wX z σ) (As := [.int (xs (i + 1)), .int (xs (i + 2)), .int (xs (i + 3))]) (rest := []) (s0 := τ) (s1 := τ1) (r0 := r) (q := 36) hC hR lkl_62 (c_W_as τ (xs (i + 1)) (xs (i + 2)) (xs (i + 3))) hW (fun _ _ h => eqA.L h) dL_law_695 recX10 rfl rfl hx0 rfl ⟨by decide, by decide⟩ (Nat.le_of_ble_eq_true rfl) ⟨by omega, by omega⟩ ⟨_, rfl, fun _ => rfl⟩ (fun ad1 hE1 hC => ?_)
  have hm0 := (hE1 0 (by omega)).trans hm0
  show AL z x 4 Q (k + 0) (n + 0) _ _ _ (wM z τ1 ad1 σ)
  refine al_aload_n (j := 2) hC rfl rfl dL_law_698 ?_
  refine al_aload_n (j := 3) hC rfl rfl dL_law_699 ?_
  refine al_iload_n (j := 0) hC rfl rfl dL_law_700 ?_
  refine al_iconst (v := 1) hC rfl dL_law_701 ?_
  refine al_iadd hC dL_law_702 ?_
  refine al_sld (j := i + 1) hC hX (Int32.ofNat_add i 1).symm (by omega) dL_law_703 ?_
  refine al_aload_n (j := 3) hC rfl rfl dL_law_704 ?_
  refine al_iload_n (j := 0) hC rfl rfl dL_law_705 ?_
  refine al_iconst (v := 2) hC rfl dL_law_706 ?_
  refine al_iadd hC dL_law_707 ?_
  refine al_sld (j := i + 2) hC hX (Int32.ofNat_add i 2).symm (by omega) dL_law_708 ?_
  refine al_aload_n (j := 3) hC rfl rfl dL_law_709 ?_
  refine al_iload_n (j := 0) hC rfl rfl dL_law_710 ?_
  refine al_iconst (v := 3) hC rfl dL_law_711 ?_
  refine al_iadd hC dL_law_712 ?_
  refine al_sld (j := i + 3) hC hX (Int32.ofNat_add i 3).symm (by omega) dL_law_713 ?_
  refine al_callL (w := wM z τ1) (As := [.int (xs (i + 1)), .int (xs (i + 2)), .int (xs (i + 3))]) (rest := [.int r]) (s0 := σ) (s1 := σ1) (r0 := r) (q := 0) hC hR lkl_65 (c_M_as σ (xs (i + 1)) (xs (i + 2)) (xs (i + 3))) hM (fun _ _ h => eqA.L h) dL_law_714 recX11 rfl rfl hm0 rfl ⟨by decide, by decide⟩ (Nat.le_of_ble_eq_true rfl) ⟨by omega, by omega⟩ ⟨_, rfl, fun _ => rfl⟩ (fun ad2 hE2 hC => ?_)
  show AL z x 4 Q _ _ _ _ _ (wX z σ1 ad2 τ1)
  refine al_icmp_eq (tgt := 2151) hC dL_law_717 rfl (fun _ => ?_) (fun g => absurd rfl g)
  exact kk ad2 (hE1.trans hE2)
theorem dL_law_722 : decode code 722 = .ok (.aload_n 1, 1) := by decide +kernel
theorem dL_law_723 : decode code 723 = .ok (.aload_n 0, 1) := by decide +kernel
theorem dL_law_724 : decode code 724 = .ok (.iload_n 3, 1) := by decide +kernel
theorem dL_law_725 : decode code 725 = .ok (.iconst 1, 1) := by decide +kernel
theorem dL_law_726 : decode code 726 = .ok (.iadd, 1) := by decide +kernel
theorem dL_law_727 : decode code 727 = .ok (.iaload, 1) := by decide +kernel
theorem dL_law_728 : decode code 728 = .ok (.aload_n 0, 1) := by decide +kernel
theorem dL_law_729 : decode code 729 = .ok (.iload_n 3, 1) := by decide +kernel
theorem dL_law_730 : decode code 730 = .ok (.iconst 2, 1) := by decide +kernel
theorem dL_law_731 : decode code 731 = .ok (.iadd, 1) := by decide +kernel
theorem dL_law_732 : decode code 732 = .ok (.iaload, 1) := by decide +kernel
theorem dL_law_733 : decode code 733 = .ok (.aload_n 0, 1) := by decide +kernel
theorem dL_law_734 : decode code 734 = .ok (.iload_n 3, 1) := by decide +kernel
theorem dL_law_735 : decode code 735 = .ok (.iconst 3, 1) := by decide +kernel
theorem dL_law_736 : decode code 736 = .ok (.iadd, 1) := by decide +kernel
theorem dL_law_737 : decode code 737 = .ok (.iaload, 1) := by decide +kernel
theorem dL_law_738 : decode code 738 = .ok (.aload_n 0, 1) := by decide +kernel
theorem dL_law_739 : decode code 739 = .ok (.iload_n 3, 1) := by decide +kernel
theorem dL_law_740 : decode code 740 = .ok (.iconst 4, 1) := by decide +kernel
theorem dL_law_741 : decode code 741 = .ok (.iadd, 1) := by decide +kernel
theorem dL_law_742 : decode code 742 = .ok (.iaload, 1) := by decide +kernel
theorem dL_law_743 : decode code 743 = .ok (.invokevirtual 66, 3) := by decide +kernel
theorem dL_law_746 : decode code 746 = .ok (.aload_n 2, 1) := by decide +kernel
theorem dL_law_747 : decode code 747 = .ok (.aload_n 0, 1) := by decide +kernel
theorem dL_law_748 : decode code 748 = .ok (.iload_n 3, 1) := by decide +kernel
theorem dL_law_749 : decode code 749 = .ok (.iconst 1, 1) := by decide +kernel
theorem dL_law_750 : decode code 750 = .ok (.iadd, 1) := by decide +kernel
theorem dL_law_751 : decode code 751 = .ok (.iaload, 1) := by decide +kernel
theorem dL_law_752 : decode code 752 = .ok (.aload_n 0, 1) := by decide +kernel
theorem dL_law_753 : decode code 753 = .ok (.iload_n 3, 1) := by decide +kernel
theorem dL_law_754 : decode code 754 = .ok (.iconst 2, 1) := by decide +kernel
theorem dL_law_755 : decode code 755 = .ok (.iadd, 1) := by decide +kernel
theorem dL_law_756 : decode code 756 = .ok (.iaload, 1) := by decide +kernel
theorem dL_law_757 : decode code 757 = .ok (.aload_n 0, 1) := by decide +kernel
theorem dL_law_758 : decode code 758 = .ok (.iload_n 3, 1) := by decide +kernel
theorem dL_law_759 : decode code 759 = .ok (.iconst 3, 1) := by decide +kernel
theorem dL_law_760 : decode code 760 = .ok (.iadd, 1) := by decide +kernel
theorem dL_law_761 : decode code 761 = .ok (.iaload, 1) := by decide +kernel
theorem dL_law_762 : decode code 762 = .ok (.aload_n 0, 1) := by decide +kernel
theorem dL_law_763 : decode code 763 = .ok (.iload_n 3, 1) := by decide +kernel
theorem dL_law_764 : decode code 764 = .ok (.iconst 4, 1) := by decide +kernel
theorem dL_law_765 : decode code 765 = .ok (.iadd, 1) := by decide +kernel
theorem dL_law_766 : decode code 766 = .ok (.iaload, 1) := by decide +kernel
theorem dL_law_767 : decode code 767 = .ok (.invokevirtual 69, 3) := by decide +kernel
theorem dL_law_770 : decode code 770 = .ok (.if_icmp .eq 1381, 3) := by decide +kernel
theorem dL_law_773 : decode code 773 = .ok (.iconst 0, 1) := by decide +kernel
theorem dL_law_774 : decode code 774 = .ok (.ireturn, 1) := by decide +kernel
set_option maxRecDepth 100000 in
theorem law_c12 {z : ZZ} {x : XX} {Q : State → Prop} {k n : Nat} {ad : Nat → Nat} {b L i x0 m0 : Nat} {xs : Nat → Int32} {σ σ1 : MS} {τ τ1 : XS} {r : Int32} (hC : CX z ad x code RL 4 ret) (hR : x.2.2.1 = room_1) (hX : SX z x b L xs) (hx0 : ad 36 = x0) (hm0 : ad 0 = m0) (hi : i + 4 < L) (hk : k + 0 ≤ 600000 ∧ n + 0 ≤ 7302250) (hW : W_live τ (xs (i + 1)) (xs (i + 2)) (xs (i + 3)) (xs (i + 4)) = some (r, τ1)) (hM : M_live σ (xs (i + 1)) (xs (i + 2)) (xs (i + 3)) (xs (i + 4)) = some (r, σ1)) (kk : ∀ ad2, exL ad ad2 → AL z x 4 Q (k + 0 + 0) (n + 0 + 0) 2151 [(3, .int (Int32.ofNat i)), (1, .ref x0), (2, .ref m0), (0, .ref b)] [] (wX z σ1 ad2 τ1)) : AL z x 4 Q k n 722 [(3, .int (Int32.ofNat i)), (1, .ref x0), (2, .ref m0), (0, .ref b)] [] (wX z σ ad τ) := by
  refine al_aload_n (j := 1) hC rfl rfl dL_law_722 ?_
  refine al_aload_n (j := 3) hC rfl rfl dL_law_723 ?_
  refine al_iload_n (j := 0) hC rfl rfl dL_law_724 ?_
  refine al_iconst (v := 1) hC rfl dL_law_725 ?_
  refine al_iadd hC dL_law_726 ?_
  refine al_sld (j := i + 1) hC hX (Int32.ofNat_add i 1).symm (by omega) dL_law_727 ?_
  refine al_aload_n (j := 3) hC rfl rfl dL_law_728 ?_
  refine al_iload_n (j := 0) hC rfl rfl dL_law_729 ?_
  refine al_iconst (v := 2) hC rfl dL_law_730 ?_
  refine al_iadd hC dL_law_731 ?_
  refine al_sld (j := i + 2) hC hX (Int32.ofNat_add i 2).symm (by omega) dL_law_732 ?_
  refine al_aload_n (j := 3) hC rfl rfl dL_law_733 ?_
  refine al_iload_n (j := 0) hC rfl rfl dL_law_734 ?_
  refine al_iconst (v := 3) hC rfl dL_law_735 ?_
  refine al_iadd hC dL_law_736 ?_
  refine al_sld (j := i + 3) hC hX (Int32.ofNat_add i 3).symm (by omega) dL_law_737 ?_
  refine al_aload_n (j := 3) hC rfl rfl dL_law_738 ?_
  refine al_iload_n (j := 0) hC rfl rfl dL_law_739 ?_
  refine al_iconst (v := 4) hC rfl dL_law_740 ?_
  refine al_iadd hC dL_law_741 ?_
  refine al_sld (j := i + 4) hC hX (Int32.ofNat_add i 4).symm (by omega) dL_law_742 ?_
  refine al_callL (w := wX z σ) (As := [.int (xs (i + 1)), .int (xs (i + 2)), .int (xs (i + 3)), .int (xs (i + 4))]) (rest := []) (s0 := τ) (s1 := τ1) (r0 := r) (q := 36) hC hR lkl_66 (c_W_live τ (xs (i + 1)) (xs (i + 2)) (xs (i + 3)) (xs (i + 4))) hW (fun _ _ h => eqA.L h) dL_law_743 recX10 rfl rfl hx0 rfl ⟨by decide, by decide⟩ (Nat.le_of_ble_eq_true rfl) ⟨by omega, by omega⟩ ⟨_, rfl, fun _ => rfl⟩ (fun ad1 hE1 hC => ?_)
  have hm0 := (hE1 0 (by omega)).trans hm0
  show AL z x 4 Q (k + 0) (n + 0) _ _ _ (wM z τ1 ad1 σ)
  refine al_aload_n (j := 2) hC rfl rfl dL_law_746 ?_
  refine al_aload_n (j := 3) hC rfl rfl dL_law_747 ?_
  refine al_iload_n (j := 0) hC rfl rfl dL_law_748 ?_
  refine al_iconst (v := 1) hC rfl dL_law_749 ?_
  refine al_iadd hC dL_law_750 ?_
  refine al_sld (j := i + 1) hC hX (Int32.ofNat_add i 1).symm (by omega) dL_law_751 ?_
  refine al_aload_n (j := 3) hC rfl rfl dL_law_752 ?_
  refine al_iload_n (j := 0) hC rfl rfl dL_law_753 ?_
  refine al_iconst (v := 2) hC rfl dL_law_754 ?_
  refine al_iadd hC dL_law_755 ?_
  refine al_sld (j := i + 2) hC hX (Int32.ofNat_add i 2).symm (by omega) dL_law_756 ?_
  refine al_aload_n (j := 3) hC rfl rfl dL_law_757 ?_
  refine al_iload_n (j := 0) hC rfl rfl dL_law_758 ?_
  refine al_iconst (v := 3) hC rfl dL_law_759 ?_
  refine al_iadd hC dL_law_760 ?_
  refine al_sld (j := i + 3) hC hX (Int32.ofNat_add i 3).symm (by omega) dL_law_761 ?_
  refine al_aload_n (j := 3) hC rfl rfl dL_law_762 ?_
  refine al_iload_n (j := 0) hC rfl rfl dL_law_763 ?_
  refine al_iconst (v := 4) hC rfl dL_law_764 ?_
  refine al_iadd hC dL_law_765 ?_
  refine al_sld (j := i + 4) hC hX (Int32.ofNat_add i 4).symm (by omega) dL_law_766 ?_
  refine al_callL (w := wM z τ1) (As := [.int (xs (i + 1)), .int (xs (i + 2)), .int (xs (i + 3)), .int (xs (i + 4))]) (rest := [.int r]) (s0 := σ) (s1 := σ1) (r0 := r) (q := 0) hC hR lkl_69 (c_M_live σ (xs (i + 1)) (xs (i + 2)) (xs (i + 3)) (xs (i + 4))) hM (fun _ _ h => eqA.L h) dL_law_767 recX11 rfl rfl hm0 rfl ⟨by decide, by decide⟩ (Nat.le_of_ble_eq_true rfl) ⟨by omega, by omega⟩ ⟨_, rfl, fun _ => rfl⟩ (fun ad2 hE2 hC => ?_)
  show AL z x 4 Q _ _ _ _ _ (wX z σ1 ad2 τ1)
  refine al_icmp_eq (tgt := 2151) hC dL_law_770 rfl (fun _ => ?_) (fun g => absurd rfl g)
  exact kk ad2 (hE1.trans hE2)
theorem dL_law_775 : decode code 775 = .ok (.aload_n 1, 1) := by decide +kernel
theorem dL_law_776 : decode code 776 = .ok (.aload_n 0, 1) := by decide +kernel
theorem dL_law_777 : decode code 777 = .ok (.iload_n 3, 1) := by decide +kernel
theorem dL_law_778 : decode code 778 = .ok (.iconst 1, 1) := by decide +kernel
theorem dL_law_779 : decode code 779 = .ok (.iadd, 1) := by decide +kernel
theorem dL_law_780 : decode code 780 = .ok (.iaload, 1) := by decide +kernel
theorem dL_law_781 : decode code 781 = .ok (.aload_n 0, 1) := by decide +kernel
theorem dL_law_782 : decode code 782 = .ok (.iload_n 3, 1) := by decide +kernel
theorem dL_law_783 : decode code 783 = .ok (.iconst 2, 1) := by decide +kernel
theorem dL_law_784 : decode code 784 = .ok (.iadd, 1) := by decide +kernel
theorem dL_law_785 : decode code 785 = .ok (.iaload, 1) := by decide +kernel
theorem dL_law_786 : decode code 786 = .ok (.aload_n 0, 1) := by decide +kernel
theorem dL_law_787 : decode code 787 = .ok (.iload_n 3, 1) := by decide +kernel
theorem dL_law_788 : decode code 788 = .ok (.iconst 3, 1) := by decide +kernel
theorem dL_law_789 : decode code 789 = .ok (.iadd, 1) := by decide +kernel
theorem dL_law_790 : decode code 790 = .ok (.iaload, 1) := by decide +kernel
theorem dL_law_791 : decode code 791 = .ok (.aload_n 0, 1) := by decide +kernel
theorem dL_law_792 : decode code 792 = .ok (.iload_n 3, 1) := by decide +kernel
theorem dL_law_793 : decode code 793 = .ok (.iconst 4, 1) := by decide +kernel
theorem dL_law_794 : decode code 794 = .ok (.iadd, 1) := by decide +kernel
theorem dL_law_795 : decode code 795 = .ok (.iaload, 1) := by decide +kernel
theorem dL_law_796 : decode code 796 = .ok (.invokevirtual 70, 3) := by decide +kernel
theorem dL_law_799 : decode code 799 = .ok (.aload_n 2, 1) := by decide +kernel
theorem dL_law_800 : decode code 800 = .ok (.aload_n 0, 1) := by decide +kernel
theorem dL_law_801 : decode code 801 = .ok (.iload_n 3, 1) := by decide +kernel
theorem dL_law_802 : decode code 802 = .ok (.iconst 1, 1) := by decide +kernel
theorem dL_law_803 : decode code 803 = .ok (.iadd, 1) := by decide +kernel
theorem dL_law_804 : decode code 804 = .ok (.iaload, 1) := by decide +kernel
theorem dL_law_805 : decode code 805 = .ok (.aload_n 0, 1) := by decide +kernel
theorem dL_law_806 : decode code 806 = .ok (.iload_n 3, 1) := by decide +kernel
theorem dL_law_807 : decode code 807 = .ok (.iconst 2, 1) := by decide +kernel
theorem dL_law_808 : decode code 808 = .ok (.iadd, 1) := by decide +kernel
theorem dL_law_809 : decode code 809 = .ok (.iaload, 1) := by decide +kernel
theorem dL_law_810 : decode code 810 = .ok (.aload_n 0, 1) := by decide +kernel
theorem dL_law_811 : decode code 811 = .ok (.iload_n 3, 1) := by decide +kernel
theorem dL_law_812 : decode code 812 = .ok (.iconst 3, 1) := by decide +kernel
theorem dL_law_813 : decode code 813 = .ok (.iadd, 1) := by decide +kernel
theorem dL_law_814 : decode code 814 = .ok (.iaload, 1) := by decide +kernel
theorem dL_law_815 : decode code 815 = .ok (.aload_n 0, 1) := by decide +kernel
theorem dL_law_816 : decode code 816 = .ok (.iload_n 3, 1) := by decide +kernel
theorem dL_law_817 : decode code 817 = .ok (.iconst 4, 1) := by decide +kernel
theorem dL_law_818 : decode code 818 = .ok (.iadd, 1) := by decide +kernel
theorem dL_law_819 : decode code 819 = .ok (.iaload, 1) := by decide +kernel
theorem dL_law_820 : decode code 820 = .ok (.invokevirtual 73, 3) := by decide +kernel
theorem dL_law_823 : decode code 823 = .ok (.if_icmp .eq 1328, 3) := by decide +kernel
theorem dL_law_826 : decode code 826 = .ok (.iconst 0, 1) := by decide +kernel
theorem dL_law_827 : decode code 827 = .ok (.ireturn, 1) := by decide +kernel
set_option maxRecDepth 100000 in
theorem law_c13 {z : ZZ} {x : XX} {Q : State → Prop} {k n : Nat} {ad : Nat → Nat} {b L i x0 m0 : Nat} {xs : Nat → Int32} {σ σ1 : MS} {τ τ1 : XS} {r : Int32} (hC : CX z ad x code RL 4 ret) (hR : x.2.2.1 = room_1) (hX : SX z x b L xs) (hx0 : ad 36 = x0) (hm0 : ad 0 = m0) (hi : i + 4 < L) (hk : k + 0 ≤ 600000 ∧ n + 0 ≤ 7302250) (hW : W_part τ (xs (i + 1)) (xs (i + 2)) (xs (i + 3)) (xs (i + 4)) = some (r, τ1)) (hM : M_part σ (xs (i + 1)) (xs (i + 2)) (xs (i + 3)) (xs (i + 4)) = some (r, σ1)) (kk : ∀ ad2, exL ad ad2 → AL z x 4 Q (k + 0 + 0) (n + 0 + 0) 2151 [(3, .int (Int32.ofNat i)), (1, .ref x0), (2, .ref m0), (0, .ref b)] [] (wX z σ1 ad2 τ1)) : AL z x 4 Q k n 775 [(3, .int (Int32.ofNat i)), (1, .ref x0), (2, .ref m0), (0, .ref b)] [] (wX z σ ad τ) := by
  refine al_aload_n (j := 1) hC rfl rfl dL_law_775 ?_
  refine al_aload_n (j := 3) hC rfl rfl dL_law_776 ?_
  refine al_iload_n (j := 0) hC rfl rfl dL_law_777 ?_
  refine al_iconst (v := 1) hC rfl dL_law_778 ?_
  refine al_iadd hC dL_law_779 ?_
  refine al_sld (j := i + 1) hC hX (Int32.ofNat_add i 1).symm (by omega) dL_law_780 ?_
  refine al_aload_n (j := 3) hC rfl rfl dL_law_781 ?_
  refine al_iload_n (j := 0) hC rfl rfl dL_law_782 ?_
  refine al_iconst (v := 2) hC rfl dL_law_783 ?_
  refine al_iadd hC dL_law_784 ?_
  refine al_sld (j := i + 2) hC hX (Int32.ofNat_add i 2).symm (by omega) dL_law_785 ?_
  refine al_aload_n (j := 3) hC rfl rfl dL_law_786 ?_
  refine al_iload_n (j := 0) hC rfl rfl dL_law_787 ?_
  refine al_iconst (v := 3) hC rfl dL_law_788 ?_
  refine al_iadd hC dL_law_789 ?_
  refine al_sld (j := i + 3) hC hX (Int32.ofNat_add i 3).symm (by omega) dL_law_790 ?_
  refine al_aload_n (j := 3) hC rfl rfl dL_law_791 ?_
  refine al_iload_n (j := 0) hC rfl rfl dL_law_792 ?_
  refine al_iconst (v := 4) hC rfl dL_law_793 ?_
  refine al_iadd hC dL_law_794 ?_
  refine al_sld (j := i + 4) hC hX (Int32.ofNat_add i 4).symm (by omega) dL_law_795 ?_
  refine al_callL (w := wX z σ) (As := [.int (xs (i + 1)), .int (xs (i + 2)), .int (xs (i + 3)), .int (xs (i + 4))]) (rest := []) (s0 := τ) (s1 := τ1) (r0 := r) (q := 36) hC hR lkl_70 (c_W_part τ (xs (i + 1)) (xs (i + 2)) (xs (i + 3)) (xs (i + 4))) hW (fun _ _ h => eqA.L h) dL_law_796 recX10 rfl rfl hx0 rfl ⟨by decide, by decide⟩ (Nat.le_of_ble_eq_true rfl) ⟨by omega, by omega⟩ ⟨_, rfl, fun _ => rfl⟩ (fun ad1 hE1 hC => ?_)
  have hm0 := (hE1 0 (by omega)).trans hm0
  show AL z x 4 Q (k + 0) (n + 0) _ _ _ (wM z τ1 ad1 σ)
  refine al_aload_n (j := 2) hC rfl rfl dL_law_799 ?_
  refine al_aload_n (j := 3) hC rfl rfl dL_law_800 ?_
  refine al_iload_n (j := 0) hC rfl rfl dL_law_801 ?_
  refine al_iconst (v := 1) hC rfl dL_law_802 ?_
  refine al_iadd hC dL_law_803 ?_
  refine al_sld (j := i + 1) hC hX (Int32.ofNat_add i 1).symm (by omega) dL_law_804 ?_
  refine al_aload_n (j := 3) hC rfl rfl dL_law_805 ?_
  refine al_iload_n (j := 0) hC rfl rfl dL_law_806 ?_
  refine al_iconst (v := 2) hC rfl dL_law_807 ?_
  refine al_iadd hC dL_law_808 ?_
  refine al_sld (j := i + 2) hC hX (Int32.ofNat_add i 2).symm (by omega) dL_law_809 ?_
  refine al_aload_n (j := 3) hC rfl rfl dL_law_810 ?_
  refine al_iload_n (j := 0) hC rfl rfl dL_law_811 ?_
  refine al_iconst (v := 3) hC rfl dL_law_812 ?_
  refine al_iadd hC dL_law_813 ?_
  refine al_sld (j := i + 3) hC hX (Int32.ofNat_add i 3).symm (by omega) dL_law_814 ?_
  refine al_aload_n (j := 3) hC rfl rfl dL_law_815 ?_
  refine al_iload_n (j := 0) hC rfl rfl dL_law_816 ?_
  refine al_iconst (v := 4) hC rfl dL_law_817 ?_
  refine al_iadd hC dL_law_818 ?_
  refine al_sld (j := i + 4) hC hX (Int32.ofNat_add i 4).symm (by omega) dL_law_819 ?_
  refine al_callL (w := wM z τ1) (As := [.int (xs (i + 1)), .int (xs (i + 2)), .int (xs (i + 3)), .int (xs (i + 4))]) (rest := [.int r]) (s0 := σ) (s1 := σ1) (r0 := r) (q := 0) hC hR lkl_73 (c_M_part σ (xs (i + 1)) (xs (i + 2)) (xs (i + 3)) (xs (i + 4))) hM (fun _ _ h => eqA.L h) dL_law_820 recX11 rfl rfl hm0 rfl ⟨by decide, by decide⟩ (Nat.le_of_ble_eq_true rfl) ⟨by omega, by omega⟩ ⟨_, rfl, fun _ => rfl⟩ (fun ad2 hE2 hC => ?_)
  show AL z x 4 Q _ _ _ _ _ (wX z σ1 ad2 τ1)
  refine al_icmp_eq (tgt := 2151) hC dL_law_823 rfl (fun _ => ?_) (fun g => absurd rfl g)
  exact kk ad2 (hE1.trans hE2)
theorem dL_law_828 : decode code 828 = .ok (.aload_n 1, 1) := by decide +kernel
theorem dL_law_829 : decode code 829 = .ok (.aload_n 0, 1) := by decide +kernel
theorem dL_law_830 : decode code 830 = .ok (.iload_n 3, 1) := by decide +kernel
theorem dL_law_831 : decode code 831 = .ok (.iconst 1, 1) := by decide +kernel
theorem dL_law_832 : decode code 832 = .ok (.iadd, 1) := by decide +kernel
theorem dL_law_833 : decode code 833 = .ok (.iaload, 1) := by decide +kernel
theorem dL_law_834 : decode code 834 = .ok (.i2l, 1) := by decide +kernel
theorem dL_law_835 : decode code 835 = .ok (.bipush 32, 2) := by decide +kernel
theorem dL_law_837 : decode code 837 = .ok (.lshl, 1) := by decide +kernel
theorem dL_law_838 : decode code 838 = .ok (.aload_n 0, 1) := by decide +kernel
theorem dL_law_839 : decode code 839 = .ok (.iload_n 3, 1) := by decide +kernel
theorem dL_law_840 : decode code 840 = .ok (.iconst 2, 1) := by decide +kernel
theorem dL_law_841 : decode code 841 = .ok (.iadd, 1) := by decide +kernel
theorem dL_law_842 : decode code 842 = .ok (.iaload, 1) := by decide +kernel
theorem dL_law_843 : decode code 843 = .ok (.i2l, 1) := by decide +kernel
theorem dL_law_844 : decode code 844 = .ok (.ldc2_w 74, 3) := by decide +kernel
theorem dL_law_847 : decode code 847 = .ok (.land, 1) := by decide +kernel
theorem dL_law_848 : decode code 848 = .ok (.lor, 1) := by decide +kernel
theorem dL_law_849 : decode code 849 = .ok (.aload_n 0, 1) := by decide +kernel
theorem dL_law_850 : decode code 850 = .ok (.iload_n 3, 1) := by decide +kernel
theorem dL_law_851 : decode code 851 = .ok (.iconst 3, 1) := by decide +kernel
theorem dL_law_852 : decode code 852 = .ok (.iadd, 1) := by decide +kernel
theorem dL_law_853 : decode code 853 = .ok (.iaload, 1) := by decide +kernel
theorem dL_law_854 : decode code 854 = .ok (.invokevirtual 76, 3) := by decide +kernel
theorem dL_law_857 : decode code 857 = .ok (.aload_n 2, 1) := by decide +kernel
theorem dL_law_858 : decode code 858 = .ok (.aload_n 0, 1) := by decide +kernel
theorem dL_law_859 : decode code 859 = .ok (.iload_n 3, 1) := by decide +kernel
theorem dL_law_860 : decode code 860 = .ok (.iconst 1, 1) := by decide +kernel
theorem dL_law_861 : decode code 861 = .ok (.iadd, 1) := by decide +kernel
theorem dL_law_862 : decode code 862 = .ok (.iaload, 1) := by decide +kernel
theorem dL_law_863 : decode code 863 = .ok (.i2l, 1) := by decide +kernel
theorem dL_law_864 : decode code 864 = .ok (.bipush 32, 2) := by decide +kernel
theorem dL_law_866 : decode code 866 = .ok (.lshl, 1) := by decide +kernel
theorem dL_law_867 : decode code 867 = .ok (.aload_n 0, 1) := by decide +kernel
theorem dL_law_868 : decode code 868 = .ok (.iload_n 3, 1) := by decide +kernel
theorem dL_law_869 : decode code 869 = .ok (.iconst 2, 1) := by decide +kernel
theorem dL_law_870 : decode code 870 = .ok (.iadd, 1) := by decide +kernel
theorem dL_law_871 : decode code 871 = .ok (.iaload, 1) := by decide +kernel
theorem dL_law_872 : decode code 872 = .ok (.i2l, 1) := by decide +kernel
theorem dL_law_873 : decode code 873 = .ok (.ldc2_w 74, 3) := by decide +kernel
theorem dL_law_876 : decode code 876 = .ok (.land, 1) := by decide +kernel
theorem dL_law_877 : decode code 877 = .ok (.lor, 1) := by decide +kernel
theorem dL_law_878 : decode code 878 = .ok (.aload_n 0, 1) := by decide +kernel
theorem dL_law_879 : decode code 879 = .ok (.iload_n 3, 1) := by decide +kernel
theorem dL_law_880 : decode code 880 = .ok (.iconst 3, 1) := by decide +kernel
theorem dL_law_881 : decode code 881 = .ok (.iadd, 1) := by decide +kernel
theorem dL_law_882 : decode code 882 = .ok (.iaload, 1) := by decide +kernel
theorem dL_law_883 : decode code 883 = .ok (.invokevirtual 80, 3) := by decide +kernel
theorem dL_law_886 : decode code 886 = .ok (.if_icmp .eq 1265, 3) := by decide +kernel
theorem dL_law_889 : decode code 889 = .ok (.iconst 0, 1) := by decide +kernel
theorem dL_law_890 : decode code 890 = .ok (.ireturn, 1) := by decide +kernel
set_option maxRecDepth 100000 in
theorem law_c14 {z : ZZ} {x : XX} {Q : State → Prop} {k n : Nat} {ad : Nat → Nat} {b L i x0 m0 : Nat} {xs : Nat → Int32} {σ σ1 : MS} {τ τ1 : XS} {r : Int32} (hC : CX z ad x code RL 4 ret) (hR : x.2.2.1 = room_1) (hX : SX z x b L xs) (hx0 : ad 36 = x0) (hm0 : ad 0 = m0) (hi : i + 4 < L) (hk : k + 0 ≤ 600000 ∧ n + 0 ≤ 7302250) (hW : W_feed τ ((((xs (i + 1))).toInt64 <<< ((32 : Int32).toInt64 &&& 63)) ||| (((xs (i + 2))).toInt64 &&& (4294967295))) (xs (i + 3)) = some (r, τ1)) (hM : M_feed σ ((((xs (i + 1))).toInt64 <<< ((32 : Int32).toInt64 &&& 63)) ||| (((xs (i + 2))).toInt64 &&& (4294967295))) (xs (i + 3)) = some (r, σ1)) (kk : ∀ ad2, exL ad ad2 → AL z x 4 Q (k + 0 + 0) (n + 0 + 0) 2151 [(3, .int (Int32.ofNat i)), (1, .ref x0), (2, .ref m0), (0, .ref b)] [] (wX z σ1 ad2 τ1)) : AL z x 4 Q k n 828 [(3, .int (Int32.ofNat i)), (1, .ref x0), (2, .ref m0), (0, .ref b)] [] (wX z σ ad τ) := by
  refine al_aload_n (j := 1) hC rfl rfl dL_law_828 ?_
  refine al_aload_n (j := 3) hC rfl rfl dL_law_829 ?_
  refine al_iload_n (j := 0) hC rfl rfl dL_law_830 ?_
  refine al_iconst (v := 1) hC rfl dL_law_831 ?_
  refine al_iadd hC dL_law_832 ?_
  refine al_sld (j := i + 1) hC hX (Int32.ofNat_add i 1).symm (by omega) dL_law_833 ?_
  refine al_i2l hC dL_law_834 ?_
  refine al_bipush (v := 32) hC rfl dL_law_835 ?_
  refine al_lshl hC dL_law_837 ?_
  refine al_aload_n (j := 3) hC rfl rfl dL_law_838 ?_
  refine al_iload_n (j := 0) hC rfl rfl dL_law_839 ?_
  refine al_iconst (v := 2) hC rfl dL_law_840 ?_
  refine al_iadd hC dL_law_841 ?_
  refine al_sld (j := i + 2) hC hX (Int32.ofNat_add i 2).symm (by omega) dL_law_842 ?_
  refine al_i2l hC dL_law_843 ?_
  refine al_ldc2 hC kl_L_74 dL_law_844 ?_
  refine al_land hC dL_law_847 ?_
  refine al_lor hC dL_law_848 ?_
  refine al_aload_n (j := 3) hC rfl rfl dL_law_849 ?_
  refine al_iload_n (j := 0) hC rfl rfl dL_law_850 ?_
  refine al_iconst (v := 3) hC rfl dL_law_851 ?_
  refine al_iadd hC dL_law_852 ?_
  refine al_sld (j := i + 3) hC hX (Int32.ofNat_add i 3).symm (by omega) dL_law_853 ?_
  refine al_callL (w := wX z σ) (As := [.long ((((xs (i + 1))).toInt64 <<< ((32 : Int32).toInt64 &&& 63)) ||| (((xs (i + 2))).toInt64 &&& (4294967295))), .int (xs (i + 3))]) (rest := []) (s0 := τ) (s1 := τ1) (r0 := r) (q := 36) hC hR lkl_76 (c_W_feed τ ((((xs (i + 1))).toInt64 <<< ((32 : Int32).toInt64 &&& 63)) ||| (((xs (i + 2))).toInt64 &&& (4294967295))) (xs (i + 3))) hW (fun _ _ h => eqA.L h) dL_law_854 recX10 rfl rfl hx0 rfl ⟨by decide, by decide⟩ (Nat.le_of_ble_eq_true rfl) ⟨by omega, by omega⟩ ⟨_, rfl, fun _ => rfl⟩ (fun ad1 hE1 hC => ?_)
  have hm0 := (hE1 0 (by omega)).trans hm0
  show AL z x 4 Q (k + 0) (n + 0) _ _ _ (wM z τ1 ad1 σ)
  refine al_aload_n (j := 2) hC rfl rfl dL_law_857 ?_
  refine al_aload_n (j := 3) hC rfl rfl dL_law_858 ?_
  refine al_iload_n (j := 0) hC rfl rfl dL_law_859 ?_
  refine al_iconst (v := 1) hC rfl dL_law_860 ?_
  refine al_iadd hC dL_law_861 ?_
  refine al_sld (j := i + 1) hC hX (Int32.ofNat_add i 1).symm (by omega) dL_law_862 ?_
  refine al_i2l hC dL_law_863 ?_
  refine al_bipush (v := 32) hC rfl dL_law_864 ?_
  refine al_lshl hC dL_law_866 ?_
  refine al_aload_n (j := 3) hC rfl rfl dL_law_867 ?_
  refine al_iload_n (j := 0) hC rfl rfl dL_law_868 ?_
  refine al_iconst (v := 2) hC rfl dL_law_869 ?_
  refine al_iadd hC dL_law_870 ?_
  refine al_sld (j := i + 2) hC hX (Int32.ofNat_add i 2).symm (by omega) dL_law_871 ?_
  refine al_i2l hC dL_law_872 ?_
  refine al_ldc2 hC kl_L_74 dL_law_873 ?_
  refine al_land hC dL_law_876 ?_
  refine al_lor hC dL_law_877 ?_
  refine al_aload_n (j := 3) hC rfl rfl dL_law_878 ?_
  refine al_iload_n (j := 0) hC rfl rfl dL_law_879 ?_
  refine al_iconst (v := 3) hC rfl dL_law_880 ?_
  refine al_iadd hC dL_law_881 ?_
  refine al_sld (j := i + 3) hC hX (Int32.ofNat_add i 3).symm (by omega) dL_law_882 ?_
  refine al_callL (w := wM z τ1) (As := [.long ((((xs (i + 1))).toInt64 <<< ((32 : Int32).toInt64 &&& 63)) ||| (((xs (i + 2))).toInt64 &&& (4294967295))), .int (xs (i + 3))]) (rest := [.int r]) (s0 := σ) (s1 := σ1) (r0 := r) (q := 0) hC hR lkl_80 (c_M_feed σ ((((xs (i + 1))).toInt64 <<< ((32 : Int32).toInt64 &&& 63)) ||| (((xs (i + 2))).toInt64 &&& (4294967295))) (xs (i + 3))) hM (fun _ _ h => eqA.L h) dL_law_883 recX11 rfl rfl hm0 rfl ⟨by decide, by decide⟩ (Nat.le_of_ble_eq_true rfl) ⟨by omega, by omega⟩ ⟨_, rfl, fun _ => rfl⟩ (fun ad2 hE2 hC => ?_)
  show AL z x 4 Q _ _ _ _ _ (wX z σ1 ad2 τ1)
  refine al_icmp_eq (tgt := 2151) hC dL_law_886 rfl (fun _ => ?_) (fun g => absurd rfl g)
  exact kk ad2 (hE1.trans hE2)
theorem dL_law_891 : decode code 891 = .ok (.aload_n 1, 1) := by decide +kernel
theorem dL_law_892 : decode code 892 = .ok (.aload_n 0, 1) := by decide +kernel
theorem dL_law_893 : decode code 893 = .ok (.iload_n 3, 1) := by decide +kernel
theorem dL_law_894 : decode code 894 = .ok (.iconst 1, 1) := by decide +kernel
theorem dL_law_895 : decode code 895 = .ok (.iadd, 1) := by decide +kernel
theorem dL_law_896 : decode code 896 = .ok (.iaload, 1) := by decide +kernel
theorem dL_law_897 : decode code 897 = .ok (.invokevirtual 81, 3) := by decide +kernel
theorem dL_law_900 : decode code 900 = .ok (.aload_n 2, 1) := by decide +kernel
theorem dL_law_901 : decode code 901 = .ok (.aload_n 0, 1) := by decide +kernel
theorem dL_law_902 : decode code 902 = .ok (.iload_n 3, 1) := by decide +kernel
theorem dL_law_903 : decode code 903 = .ok (.iconst 1, 1) := by decide +kernel
theorem dL_law_904 : decode code 904 = .ok (.iadd, 1) := by decide +kernel
theorem dL_law_905 : decode code 905 = .ok (.iaload, 1) := by decide +kernel
theorem dL_law_906 : decode code 906 = .ok (.invokevirtual 84, 3) := by decide +kernel
theorem dL_law_909 : decode code 909 = .ok (.if_icmp .eq 1242, 3) := by decide +kernel
theorem dL_law_912 : decode code 912 = .ok (.iconst 0, 1) := by decide +kernel
theorem dL_law_913 : decode code 913 = .ok (.ireturn, 1) := by decide +kernel
set_option maxRecDepth 100000 in
theorem law_c15 {z : ZZ} {x : XX} {Q : State → Prop} {k n : Nat} {ad : Nat → Nat} {b L i x0 m0 : Nat} {xs : Nat → Int32} {σ σ1 : MS} {τ τ1 : XS} {r : Int32} (hC : CX z ad x code RL 4 ret) (hR : x.2.2.1 = room_1) (hX : SX z x b L xs) (hx0 : ad 36 = x0) (hm0 : ad 0 = m0) (hi : i + 4 < L) (hk : k + 7 ≤ 600000 ∧ n + 250 ≤ 7302250) (hW : W_text τ (xs (i + 1)) = some (r, τ1)) (hM : M_text σ (xs (i + 1)) = some (r, σ1)) (kk : ∀ ad2, exL ad ad2 → AL z x 4 Q (k + 7 + 0) (n + 250 + 0) 2151 [(3, .int (Int32.ofNat i)), (1, .ref x0), (2, .ref m0), (0, .ref b)] [] (wX z σ1 ad2 τ1)) : AL z x 4 Q k n 891 [(3, .int (Int32.ofNat i)), (1, .ref x0), (2, .ref m0), (0, .ref b)] [] (wX z σ ad τ) := by
  refine al_aload_n (j := 1) hC rfl rfl dL_law_891 ?_
  refine al_aload_n (j := 3) hC rfl rfl dL_law_892 ?_
  refine al_iload_n (j := 0) hC rfl rfl dL_law_893 ?_
  refine al_iconst (v := 1) hC rfl dL_law_894 ?_
  refine al_iadd hC dL_law_895 ?_
  refine al_sld (j := i + 1) hC hX (Int32.ofNat_add i 1).symm (by omega) dL_law_896 ?_
  refine al_callL (w := wX z σ) (As := [.int (xs (i + 1))]) (rest := []) (s0 := τ) (s1 := τ1) (r0 := r) (q := 36) hC hR lkl_81 (c_W_text τ (xs (i + 1))) hW (fun _ _ h => h.L) dL_law_897 recX10 rfl rfl hx0 rfl ⟨by decide, by decide⟩ (Nat.le_of_ble_eq_true rfl) ⟨by omega, by omega⟩ ⟨_, rfl, fun _ => rfl⟩ (fun ad1 hE1 hC => ?_)
  have hm0 := (hE1 0 (by omega)).trans hm0
  show AL z x 4 Q (k + 7) (n + 250) _ _ _ (wM z τ1 ad1 σ)
  refine al_aload_n (j := 2) hC rfl rfl dL_law_900 ?_
  refine al_aload_n (j := 3) hC rfl rfl dL_law_901 ?_
  refine al_iload_n (j := 0) hC rfl rfl dL_law_902 ?_
  refine al_iconst (v := 1) hC rfl dL_law_903 ?_
  refine al_iadd hC dL_law_904 ?_
  refine al_sld (j := i + 1) hC hX (Int32.ofNat_add i 1).symm (by omega) dL_law_905 ?_
  refine al_callL (w := wM z τ1) (As := [.int (xs (i + 1))]) (rest := [.int r]) (s0 := σ) (s1 := σ1) (r0 := r) (q := 0) hC hR lkl_84 (c_M_text σ (xs (i + 1))) hM (fun _ _ h => eqA.L h) dL_law_906 recX11 rfl rfl hm0 rfl ⟨by decide, by decide⟩ (Nat.le_of_ble_eq_true rfl) ⟨by omega, by omega⟩ ⟨_, rfl, fun _ => rfl⟩ (fun ad2 hE2 hC => ?_)
  show AL z x 4 Q _ _ _ _ _ (wX z σ1 ad2 τ1)
  refine al_icmp_eq (tgt := 2151) hC dL_law_909 rfl (fun _ => ?_) (fun g => absurd rfl g)
  exact kk ad2 (hE1.trans hE2)
