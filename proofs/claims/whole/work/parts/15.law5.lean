theorem dL_law_1579 : decode code 1579 = .ok (.aload_n 1, 1) := by decide +kernel
theorem dL_law_1580 : decode code 1580 = .ok (.aload_n 0, 1) := by decide +kernel
theorem dL_law_1581 : decode code 1581 = .ok (.iload_n 3, 1) := by decide +kernel
theorem dL_law_1582 : decode code 1582 = .ok (.iconst 1, 1) := by decide +kernel
theorem dL_law_1583 : decode code 1583 = .ok (.iadd, 1) := by decide +kernel
theorem dL_law_1584 : decode code 1584 = .ok (.iaload, 1) := by decide +kernel
theorem dL_law_1585 : decode code 1585 = .ok (.aload_n 0, 1) := by decide +kernel
theorem dL_law_1586 : decode code 1586 = .ok (.iload_n 3, 1) := by decide +kernel
theorem dL_law_1587 : decode code 1587 = .ok (.iconst 2, 1) := by decide +kernel
theorem dL_law_1588 : decode code 1588 = .ok (.iadd, 1) := by decide +kernel
theorem dL_law_1589 : decode code 1589 = .ok (.iaload, 1) := by decide +kernel
theorem dL_law_1590 : decode code 1590 = .ok (.aload_n 0, 1) := by decide +kernel
theorem dL_law_1591 : decode code 1591 = .ok (.iload_n 3, 1) := by decide +kernel
theorem dL_law_1592 : decode code 1592 = .ok (.iconst 3, 1) := by decide +kernel
theorem dL_law_1593 : decode code 1593 = .ok (.iadd, 1) := by decide +kernel
theorem dL_law_1594 : decode code 1594 = .ok (.iaload, 1) := by decide +kernel
theorem dL_law_1595 : decode code 1595 = .ok (.aload_n 0, 1) := by decide +kernel
theorem dL_law_1596 : decode code 1596 = .ok (.iload_n 3, 1) := by decide +kernel
theorem dL_law_1597 : decode code 1597 = .ok (.iconst 4, 1) := by decide +kernel
theorem dL_law_1598 : decode code 1598 = .ok (.iadd, 1) := by decide +kernel
theorem dL_law_1599 : decode code 1599 = .ok (.iaload, 1) := by decide +kernel
theorem dL_law_1600 : decode code 1600 = .ok (.invokevirtual 152, 3) := by decide +kernel
theorem dL_law_1603 : decode code 1603 = .ok (.aload_n 2, 1) := by decide +kernel
theorem dL_law_1604 : decode code 1604 = .ok (.aload_n 0, 1) := by decide +kernel
theorem dL_law_1605 : decode code 1605 = .ok (.iload_n 3, 1) := by decide +kernel
theorem dL_law_1606 : decode code 1606 = .ok (.iconst 1, 1) := by decide +kernel
theorem dL_law_1607 : decode code 1607 = .ok (.iadd, 1) := by decide +kernel
theorem dL_law_1608 : decode code 1608 = .ok (.iaload, 1) := by decide +kernel
theorem dL_law_1609 : decode code 1609 = .ok (.aload_n 0, 1) := by decide +kernel
theorem dL_law_1610 : decode code 1610 = .ok (.iload_n 3, 1) := by decide +kernel
theorem dL_law_1611 : decode code 1611 = .ok (.iconst 2, 1) := by decide +kernel
theorem dL_law_1612 : decode code 1612 = .ok (.iadd, 1) := by decide +kernel
theorem dL_law_1613 : decode code 1613 = .ok (.iaload, 1) := by decide +kernel
theorem dL_law_1614 : decode code 1614 = .ok (.aload_n 0, 1) := by decide +kernel
theorem dL_law_1615 : decode code 1615 = .ok (.iload_n 3, 1) := by decide +kernel
theorem dL_law_1616 : decode code 1616 = .ok (.iconst 3, 1) := by decide +kernel
theorem dL_law_1617 : decode code 1617 = .ok (.iadd, 1) := by decide +kernel
theorem dL_law_1618 : decode code 1618 = .ok (.iaload, 1) := by decide +kernel
theorem dL_law_1619 : decode code 1619 = .ok (.aload_n 0, 1) := by decide +kernel
theorem dL_law_1620 : decode code 1620 = .ok (.iload_n 3, 1) := by decide +kernel
theorem dL_law_1621 : decode code 1621 = .ok (.iconst 4, 1) := by decide +kernel
theorem dL_law_1622 : decode code 1622 = .ok (.iadd, 1) := by decide +kernel
theorem dL_law_1623 : decode code 1623 = .ok (.iaload, 1) := by decide +kernel
theorem dL_law_1624 : decode code 1624 = .ok (.invokevirtual 155, 3) := by decide +kernel
theorem dL_law_1627 : decode code 1627 = .ok (.if_icmp .eq 524, 3) := by decide +kernel
theorem dL_law_1630 : decode code 1630 = .ok (.iconst 0, 1) := by decide +kernel
theorem dL_law_1631 : decode code 1631 = .ok (.ireturn, 1) := by decide +kernel
set_option maxRecDepth 100000 in
theorem law_c32 {z : ZZ} {x : XX} {Q : State → Prop} {k n : Nat} {ad : Nat → Nat} {b L i x0 m0 : Nat} {xs : Nat → Int32} {σ σ1 : MS} {τ τ1 : XS} {r : Int32} (hC : CX z ad x code RL 4 ret) (hR : x.2.2.1 = room_1) (hX : SX z x b L xs) (hx0 : ad 36 = x0) (hm0 : ad 0 = m0) (hi : i + 4 < L) (hk : k + 0 ≤ 600000 ∧ n + 0 ≤ 7302250) (hW : W_own τ (xs (i + 1)) (xs (i + 2)) (xs (i + 3)) (xs (i + 4)) = some (r, τ1)) (hM : M_own σ (xs (i + 1)) (xs (i + 2)) (xs (i + 3)) (xs (i + 4)) = some (r, σ1)) (kk : ∀ ad2, exL ad ad2 → AL z x 4 Q (k + 0 + 0) (n + 0 + 0) 2151 [(3, .int (Int32.ofNat i)), (1, .ref x0), (2, .ref m0), (0, .ref b)] [] (wX z σ1 ad2 τ1)) : AL z x 4 Q k n 1579 [(3, .int (Int32.ofNat i)), (1, .ref x0), (2, .ref m0), (0, .ref b)] [] (wX z σ ad τ) := by
  refine al_aload_n (j := 1) hC rfl rfl dL_law_1579 ?_
  refine al_aload_n (j := 3) hC rfl rfl dL_law_1580 ?_
  refine al_iload_n (j := 0) hC rfl rfl dL_law_1581 ?_
  refine al_iconst (v := 1) hC rfl dL_law_1582 ?_
  refine al_iadd hC dL_law_1583 ?_
  refine al_sld (j := i + 1) hC hX (Int32.ofNat_add i 1).symm (by omega) dL_law_1584 ?_
  refine al_aload_n (j := 3) hC rfl rfl dL_law_1585 ?_
  refine al_iload_n (j := 0) hC rfl rfl dL_law_1586 ?_
  refine al_iconst (v := 2) hC rfl dL_law_1587 ?_
  refine al_iadd hC dL_law_1588 ?_
  refine al_sld (j := i + 2) hC hX (Int32.ofNat_add i 2).symm (by omega) dL_law_1589 ?_
  refine al_aload_n (j := 3) hC rfl rfl dL_law_1590 ?_
  refine al_iload_n (j := 0) hC rfl rfl dL_law_1591 ?_
  refine al_iconst (v := 3) hC rfl dL_law_1592 ?_
  refine al_iadd hC dL_law_1593 ?_
  refine al_sld (j := i + 3) hC hX (Int32.ofNat_add i 3).symm (by omega) dL_law_1594 ?_
  refine al_aload_n (j := 3) hC rfl rfl dL_law_1595 ?_
  refine al_iload_n (j := 0) hC rfl rfl dL_law_1596 ?_
  refine al_iconst (v := 4) hC rfl dL_law_1597 ?_
  refine al_iadd hC dL_law_1598 ?_
  refine al_sld (j := i + 4) hC hX (Int32.ofNat_add i 4).symm (by omega) dL_law_1599 ?_
  refine al_callL (w := wX z σ) (As := [.int (xs (i + 1)), .int (xs (i + 2)), .int (xs (i + 3)), .int (xs (i + 4))]) (rest := []) (s0 := τ) (s1 := τ1) (r0 := r) (q := 36) hC hR lkl_152 (c_W_own τ (xs (i + 1)) (xs (i + 2)) (xs (i + 3)) (xs (i + 4))) hW (fun _ _ h => eqA.L h) dL_law_1600 recX10 rfl rfl hx0 rfl ⟨by decide, by decide⟩ (Nat.le_of_ble_eq_true rfl) ⟨by omega, by omega⟩ ⟨_, rfl, fun _ => rfl⟩ (fun ad1 hE1 hC => ?_)
  have hm0 := (hE1 0 (by omega)).trans hm0
  show AL z x 4 Q (k + 0) (n + 0) _ _ _ (wM z τ1 ad1 σ)
  refine al_aload_n (j := 2) hC rfl rfl dL_law_1603 ?_
  refine al_aload_n (j := 3) hC rfl rfl dL_law_1604 ?_
  refine al_iload_n (j := 0) hC rfl rfl dL_law_1605 ?_
  refine al_iconst (v := 1) hC rfl dL_law_1606 ?_
  refine al_iadd hC dL_law_1607 ?_
  refine al_sld (j := i + 1) hC hX (Int32.ofNat_add i 1).symm (by omega) dL_law_1608 ?_
  refine al_aload_n (j := 3) hC rfl rfl dL_law_1609 ?_
  refine al_iload_n (j := 0) hC rfl rfl dL_law_1610 ?_
  refine al_iconst (v := 2) hC rfl dL_law_1611 ?_
  refine al_iadd hC dL_law_1612 ?_
  refine al_sld (j := i + 2) hC hX (Int32.ofNat_add i 2).symm (by omega) dL_law_1613 ?_
  refine al_aload_n (j := 3) hC rfl rfl dL_law_1614 ?_
  refine al_iload_n (j := 0) hC rfl rfl dL_law_1615 ?_
  refine al_iconst (v := 3) hC rfl dL_law_1616 ?_
  refine al_iadd hC dL_law_1617 ?_
  refine al_sld (j := i + 3) hC hX (Int32.ofNat_add i 3).symm (by omega) dL_law_1618 ?_
  refine al_aload_n (j := 3) hC rfl rfl dL_law_1619 ?_
  refine al_iload_n (j := 0) hC rfl rfl dL_law_1620 ?_
  refine al_iconst (v := 4) hC rfl dL_law_1621 ?_
  refine al_iadd hC dL_law_1622 ?_
  refine al_sld (j := i + 4) hC hX (Int32.ofNat_add i 4).symm (by omega) dL_law_1623 ?_
  refine al_callL (w := wM z τ1) (As := [.int (xs (i + 1)), .int (xs (i + 2)), .int (xs (i + 3)), .int (xs (i + 4))]) (rest := [.int r]) (s0 := σ) (s1 := σ1) (r0 := r) (q := 0) hC hR lkl_155 (c_M_own σ (xs (i + 1)) (xs (i + 2)) (xs (i + 3)) (xs (i + 4))) hM (fun _ _ h => eqA.L h) dL_law_1624 recX11 rfl rfl hm0 rfl ⟨by decide, by decide⟩ (Nat.le_of_ble_eq_true rfl) ⟨by omega, by omega⟩ ⟨_, rfl, fun _ => rfl⟩ (fun ad2 hE2 hC => ?_)
  show AL z x 4 Q _ _ _ _ _ (wX z σ1 ad2 τ1)
  refine al_icmp_eq (tgt := 2151) hC dL_law_1627 rfl (fun _ => ?_) (fun g => absurd rfl g)
  exact kk ad2 (hE1.trans hE2)
theorem dL_law_1632 : decode code 1632 = .ok (.aload_n 1, 1) := by decide +kernel
theorem dL_law_1633 : decode code 1633 = .ok (.aload_n 0, 1) := by decide +kernel
theorem dL_law_1634 : decode code 1634 = .ok (.iload_n 3, 1) := by decide +kernel
theorem dL_law_1635 : decode code 1635 = .ok (.iconst 1, 1) := by decide +kernel
theorem dL_law_1636 : decode code 1636 = .ok (.iadd, 1) := by decide +kernel
theorem dL_law_1637 : decode code 1637 = .ok (.iaload, 1) := by decide +kernel
theorem dL_law_1638 : decode code 1638 = .ok (.aload_n 0, 1) := by decide +kernel
theorem dL_law_1639 : decode code 1639 = .ok (.iload_n 3, 1) := by decide +kernel
theorem dL_law_1640 : decode code 1640 = .ok (.iconst 2, 1) := by decide +kernel
theorem dL_law_1641 : decode code 1641 = .ok (.iadd, 1) := by decide +kernel
theorem dL_law_1642 : decode code 1642 = .ok (.iaload, 1) := by decide +kernel
theorem dL_law_1643 : decode code 1643 = .ok (.invokevirtual 156, 3) := by decide +kernel
theorem dL_law_1646 : decode code 1646 = .ok (.aload_n 2, 1) := by decide +kernel
theorem dL_law_1647 : decode code 1647 = .ok (.aload_n 0, 1) := by decide +kernel
theorem dL_law_1648 : decode code 1648 = .ok (.iload_n 3, 1) := by decide +kernel
theorem dL_law_1649 : decode code 1649 = .ok (.iconst 1, 1) := by decide +kernel
theorem dL_law_1650 : decode code 1650 = .ok (.iadd, 1) := by decide +kernel
theorem dL_law_1651 : decode code 1651 = .ok (.iaload, 1) := by decide +kernel
theorem dL_law_1652 : decode code 1652 = .ok (.aload_n 0, 1) := by decide +kernel
theorem dL_law_1653 : decode code 1653 = .ok (.iload_n 3, 1) := by decide +kernel
theorem dL_law_1654 : decode code 1654 = .ok (.iconst 2, 1) := by decide +kernel
theorem dL_law_1655 : decode code 1655 = .ok (.iadd, 1) := by decide +kernel
theorem dL_law_1656 : decode code 1656 = .ok (.iaload, 1) := by decide +kernel
theorem dL_law_1657 : decode code 1657 = .ok (.invokevirtual 159, 3) := by decide +kernel
theorem dL_law_1660 : decode code 1660 = .ok (.if_icmp .eq 491, 3) := by decide +kernel
theorem dL_law_1663 : decode code 1663 = .ok (.iconst 0, 1) := by decide +kernel
theorem dL_law_1664 : decode code 1664 = .ok (.ireturn, 1) := by decide +kernel
set_option maxRecDepth 100000 in
theorem law_c33 {z : ZZ} {x : XX} {Q : State → Prop} {k n : Nat} {ad : Nat → Nat} {b L i x0 m0 : Nat} {xs : Nat → Int32} {σ σ1 : MS} {τ τ1 : XS} {r : Int32} (hC : CX z ad x code RL 4 ret) (hR : x.2.2.1 = room_1) (hX : SX z x b L xs) (hx0 : ad 36 = x0) (hm0 : ad 0 = m0) (hi : i + 4 < L) (hk : k + 0 ≤ 600000 ∧ n + 0 ≤ 7302250) (eτ : τ = τ1) (eσ : σ = σ1) (hW : W_alive τ (xs (i + 1)) (xs (i + 2)) = some r) (hM : M_alive σ (xs (i + 1)) (xs (i + 2)) = some r) (kk : ∀ ad2, exL ad ad2 → AL z x 4 Q (k + 0 + 0) (n + 0 + 0) 2151 [(3, .int (Int32.ofNat i)), (1, .ref x0), (2, .ref m0), (0, .ref b)] [] (wX z σ1 ad2 τ1)) : AL z x 4 Q k n 1632 [(3, .int (Int32.ofNat i)), (1, .ref x0), (2, .ref m0), (0, .ref b)] [] (wX z σ ad τ) := by
  subst eτ
  subst eσ
  refine al_aload_n (j := 1) hC rfl rfl dL_law_1632 ?_
  refine al_aload_n (j := 3) hC rfl rfl dL_law_1633 ?_
  refine al_iload_n (j := 0) hC rfl rfl dL_law_1634 ?_
  refine al_iconst (v := 1) hC rfl dL_law_1635 ?_
  refine al_iadd hC dL_law_1636 ?_
  refine al_sld (j := i + 1) hC hX (Int32.ofNat_add i 1).symm (by omega) dL_law_1637 ?_
  refine al_aload_n (j := 3) hC rfl rfl dL_law_1638 ?_
  refine al_iload_n (j := 0) hC rfl rfl dL_law_1639 ?_
  refine al_iconst (v := 2) hC rfl dL_law_1640 ?_
  refine al_iadd hC dL_law_1641 ?_
  refine al_sld (j := i + 2) hC hX (Int32.ofNat_add i 2).symm (by omega) dL_law_1642 ?_
  refine al_callL (w := wX z σ) (As := [.int (xs (i + 1)), .int (xs (i + 2))]) (rest := []) (s0 := τ) (s1 := τ) (r0 := r) (q := 36) hC hR lkl_156 (c_W_alive τ (xs (i + 1)) (xs (i + 2))) (by rw [hW]; rfl) (fun _ _ h => eqA.L h) dL_law_1643 recX10 rfl rfl hx0 rfl ⟨by decide, by decide⟩ (Nat.le_of_ble_eq_true rfl) ⟨by omega, by omega⟩ ⟨_, rfl, fun _ => rfl⟩ (fun ad1 hE1 hC => ?_)
  have hm0 := (hE1 0 (by omega)).trans hm0
  show AL z x 4 Q (k + 0) (n + 0) _ _ _ (wM z τ ad1 σ)
  refine al_aload_n (j := 2) hC rfl rfl dL_law_1646 ?_
  refine al_aload_n (j := 3) hC rfl rfl dL_law_1647 ?_
  refine al_iload_n (j := 0) hC rfl rfl dL_law_1648 ?_
  refine al_iconst (v := 1) hC rfl dL_law_1649 ?_
  refine al_iadd hC dL_law_1650 ?_
  refine al_sld (j := i + 1) hC hX (Int32.ofNat_add i 1).symm (by omega) dL_law_1651 ?_
  refine al_aload_n (j := 3) hC rfl rfl dL_law_1652 ?_
  refine al_iload_n (j := 0) hC rfl rfl dL_law_1653 ?_
  refine al_iconst (v := 2) hC rfl dL_law_1654 ?_
  refine al_iadd hC dL_law_1655 ?_
  refine al_sld (j := i + 2) hC hX (Int32.ofNat_add i 2).symm (by omega) dL_law_1656 ?_
  refine al_callL (w := wM z τ) (As := [.int (xs (i + 1)), .int (xs (i + 2))]) (rest := [.int r]) (s0 := σ) (s1 := σ) (r0 := r) (q := 0) hC hR lkl_159 (c_M_alive σ (xs (i + 1)) (xs (i + 2))) (by rw [hM]; rfl) (fun _ _ h => eqA.L h) dL_law_1657 recX11 rfl rfl hm0 rfl ⟨by decide, by decide⟩ (Nat.le_of_ble_eq_true rfl) ⟨by omega, by omega⟩ ⟨_, rfl, fun _ => rfl⟩ (fun ad2 hE2 hC => ?_)
  show AL z x 4 Q _ _ _ _ _ (wX z σ ad2 τ)
  refine al_icmp_eq (tgt := 2151) hC dL_law_1660 rfl (fun _ => ?_) (fun g => absurd rfl g)
  exact kk ad2 (hE1.trans hE2)
theorem dL_law_1665 : decode code 1665 = .ok (.aload_n 1, 1) := by decide +kernel
theorem dL_law_1666 : decode code 1666 = .ok (.aload_n 0, 1) := by decide +kernel
theorem dL_law_1667 : decode code 1667 = .ok (.iload_n 3, 1) := by decide +kernel
theorem dL_law_1668 : decode code 1668 = .ok (.iconst 1, 1) := by decide +kernel
theorem dL_law_1669 : decode code 1669 = .ok (.iadd, 1) := by decide +kernel
theorem dL_law_1670 : decode code 1670 = .ok (.iaload, 1) := by decide +kernel
theorem dL_law_1671 : decode code 1671 = .ok (.invokevirtual 160, 3) := by decide +kernel
theorem dL_law_1674 : decode code 1674 = .ok (.aload_n 2, 1) := by decide +kernel
theorem dL_law_1675 : decode code 1675 = .ok (.aload_n 0, 1) := by decide +kernel
theorem dL_law_1676 : decode code 1676 = .ok (.iload_n 3, 1) := by decide +kernel
theorem dL_law_1677 : decode code 1677 = .ok (.iconst 1, 1) := by decide +kernel
theorem dL_law_1678 : decode code 1678 = .ok (.iadd, 1) := by decide +kernel
theorem dL_law_1679 : decode code 1679 = .ok (.iaload, 1) := by decide +kernel
theorem dL_law_1680 : decode code 1680 = .ok (.invokevirtual 163, 3) := by decide +kernel
theorem dL_law_1683 : decode code 1683 = .ok (.if_icmp .eq 468, 3) := by decide +kernel
theorem dL_law_1686 : decode code 1686 = .ok (.iconst 0, 1) := by decide +kernel
theorem dL_law_1687 : decode code 1687 = .ok (.ireturn, 1) := by decide +kernel
set_option maxRecDepth 100000 in
theorem law_c34 {z : ZZ} {x : XX} {Q : State → Prop} {k n : Nat} {ad : Nat → Nat} {b L i x0 m0 : Nat} {xs : Nat → Int32} {σ σ1 : MS} {τ τ1 : XS} {r : Int32} (hC : CX z ad x code RL 4 ret) (hR : x.2.2.1 = room_1) (hX : SX z x b L xs) (hx0 : ad 36 = x0) (hm0 : ad 0 = m0) (hi : i + 4 < L) (hk : k + 0 ≤ 600000 ∧ n + 0 ≤ 7302250) (eτ : τ = τ1) (eσ : σ = σ1) (hW : W_expect τ (xs (i + 1)) = some r) (hM : M_expect σ (xs (i + 1)) = some r) (kk : ∀ ad2, exL ad ad2 → AL z x 4 Q (k + 0 + 0) (n + 0 + 0) 2151 [(3, .int (Int32.ofNat i)), (1, .ref x0), (2, .ref m0), (0, .ref b)] [] (wX z σ1 ad2 τ1)) : AL z x 4 Q k n 1665 [(3, .int (Int32.ofNat i)), (1, .ref x0), (2, .ref m0), (0, .ref b)] [] (wX z σ ad τ) := by
  subst eτ
  subst eσ
  refine al_aload_n (j := 1) hC rfl rfl dL_law_1665 ?_
  refine al_aload_n (j := 3) hC rfl rfl dL_law_1666 ?_
  refine al_iload_n (j := 0) hC rfl rfl dL_law_1667 ?_
  refine al_iconst (v := 1) hC rfl dL_law_1668 ?_
  refine al_iadd hC dL_law_1669 ?_
  refine al_sld (j := i + 1) hC hX (Int32.ofNat_add i 1).symm (by omega) dL_law_1670 ?_
  refine al_callL (w := wX z σ) (As := [.int (xs (i + 1))]) (rest := []) (s0 := τ) (s1 := τ) (r0 := r) (q := 36) hC hR lkl_160 (c_W_expect τ (xs (i + 1))) (by rw [hW]; rfl) (fun _ _ h => eqA.L h) dL_law_1671 recX10 rfl rfl hx0 rfl ⟨by decide, by decide⟩ (Nat.le_of_ble_eq_true rfl) ⟨by omega, by omega⟩ ⟨_, rfl, fun _ => rfl⟩ (fun ad1 hE1 hC => ?_)
  have hm0 := (hE1 0 (by omega)).trans hm0
  show AL z x 4 Q (k + 0) (n + 0) _ _ _ (wM z τ ad1 σ)
  refine al_aload_n (j := 2) hC rfl rfl dL_law_1674 ?_
  refine al_aload_n (j := 3) hC rfl rfl dL_law_1675 ?_
  refine al_iload_n (j := 0) hC rfl rfl dL_law_1676 ?_
  refine al_iconst (v := 1) hC rfl dL_law_1677 ?_
  refine al_iadd hC dL_law_1678 ?_
  refine al_sld (j := i + 1) hC hX (Int32.ofNat_add i 1).symm (by omega) dL_law_1679 ?_
  refine al_callL (w := wM z τ) (As := [.int (xs (i + 1))]) (rest := [.int r]) (s0 := σ) (s1 := σ) (r0 := r) (q := 0) hC hR lkl_163 (c_M_expect σ (xs (i + 1))) (by rw [hM]; rfl) (fun _ _ h => eqA.L h) dL_law_1680 recX11 rfl rfl hm0 rfl ⟨by decide, by decide⟩ (Nat.le_of_ble_eq_true rfl) ⟨by omega, by omega⟩ ⟨_, rfl, fun _ => rfl⟩ (fun ad2 hE2 hC => ?_)
  show AL z x 4 Q _ _ _ _ _ (wX z σ ad2 τ)
  refine al_icmp_eq (tgt := 2151) hC dL_law_1683 rfl (fun _ => ?_) (fun g => absurd rfl g)
  exact kk ad2 (hE1.trans hE2)
theorem dL_law_1688 : decode code 1688 = .ok (.aload_n 1, 1) := by decide +kernel
theorem dL_law_1689 : decode code 1689 = .ok (.aload_n 0, 1) := by decide +kernel
theorem dL_law_1690 : decode code 1690 = .ok (.iload_n 3, 1) := by decide +kernel
theorem dL_law_1691 : decode code 1691 = .ok (.iconst 1, 1) := by decide +kernel
theorem dL_law_1692 : decode code 1692 = .ok (.iadd, 1) := by decide +kernel
theorem dL_law_1693 : decode code 1693 = .ok (.iaload, 1) := by decide +kernel
theorem dL_law_1694 : decode code 1694 = .ok (.invokevirtual 164, 3) := by decide +kernel
theorem dL_law_1697 : decode code 1697 = .ok (.aload_n 2, 1) := by decide +kernel
theorem dL_law_1698 : decode code 1698 = .ok (.aload_n 0, 1) := by decide +kernel
theorem dL_law_1699 : decode code 1699 = .ok (.iload_n 3, 1) := by decide +kernel
theorem dL_law_1700 : decode code 1700 = .ok (.iconst 1, 1) := by decide +kernel
theorem dL_law_1701 : decode code 1701 = .ok (.iadd, 1) := by decide +kernel
theorem dL_law_1702 : decode code 1702 = .ok (.iaload, 1) := by decide +kernel
theorem dL_law_1703 : decode code 1703 = .ok (.invokevirtual 167, 3) := by decide +kernel
theorem dL_law_1706 : decode code 1706 = .ok (.if_icmp .eq 445, 3) := by decide +kernel
theorem dL_law_1709 : decode code 1709 = .ok (.iconst 0, 1) := by decide +kernel
theorem dL_law_1710 : decode code 1710 = .ok (.ireturn, 1) := by decide +kernel
set_option maxRecDepth 100000 in
theorem law_c35 {z : ZZ} {x : XX} {Q : State → Prop} {k n : Nat} {ad : Nat → Nat} {b L i x0 m0 : Nat} {xs : Nat → Int32} {σ σ1 : MS} {τ τ1 : XS} {r : Int32} (hC : CX z ad x code RL 4 ret) (hR : x.2.2.1 = room_1) (hX : SX z x b L xs) (hx0 : ad 36 = x0) (hm0 : ad 0 = m0) (hi : i + 4 < L) (hk : k + 0 ≤ 600000 ∧ n + 0 ≤ 7302250) (hW : W_interest τ (xs (i + 1)) = some (r, τ1)) (hM : M_interest σ (xs (i + 1)) = some (r, σ1)) (kk : ∀ ad2, exL ad ad2 → AL z x 4 Q (k + 0 + 0) (n + 0 + 0) 2151 [(3, .int (Int32.ofNat i)), (1, .ref x0), (2, .ref m0), (0, .ref b)] [] (wX z σ1 ad2 τ1)) : AL z x 4 Q k n 1688 [(3, .int (Int32.ofNat i)), (1, .ref x0), (2, .ref m0), (0, .ref b)] [] (wX z σ ad τ) := by
  refine al_aload_n (j := 1) hC rfl rfl dL_law_1688 ?_
  refine al_aload_n (j := 3) hC rfl rfl dL_law_1689 ?_
  refine al_iload_n (j := 0) hC rfl rfl dL_law_1690 ?_
  refine al_iconst (v := 1) hC rfl dL_law_1691 ?_
  refine al_iadd hC dL_law_1692 ?_
  refine al_sld (j := i + 1) hC hX (Int32.ofNat_add i 1).symm (by omega) dL_law_1693 ?_
  refine al_callL (w := wX z σ) (As := [.int (xs (i + 1))]) (rest := []) (s0 := τ) (s1 := τ1) (r0 := r) (q := 36) hC hR lkl_164 (c_W_interest τ (xs (i + 1))) hW (fun _ _ h => eqA.L h) dL_law_1694 recX10 rfl rfl hx0 rfl ⟨by decide, by decide⟩ (Nat.le_of_ble_eq_true rfl) ⟨by omega, by omega⟩ ⟨_, rfl, fun _ => rfl⟩ (fun ad1 hE1 hC => ?_)
  have hm0 := (hE1 0 (by omega)).trans hm0
  show AL z x 4 Q (k + 0) (n + 0) _ _ _ (wM z τ1 ad1 σ)
  refine al_aload_n (j := 2) hC rfl rfl dL_law_1697 ?_
  refine al_aload_n (j := 3) hC rfl rfl dL_law_1698 ?_
  refine al_iload_n (j := 0) hC rfl rfl dL_law_1699 ?_
  refine al_iconst (v := 1) hC rfl dL_law_1700 ?_
  refine al_iadd hC dL_law_1701 ?_
  refine al_sld (j := i + 1) hC hX (Int32.ofNat_add i 1).symm (by omega) dL_law_1702 ?_
  refine al_callL (w := wM z τ1) (As := [.int (xs (i + 1))]) (rest := [.int r]) (s0 := σ) (s1 := σ1) (r0 := r) (q := 0) hC hR lkl_167 (c_M_interest σ (xs (i + 1))) hM (fun _ _ h => eqA.L h) dL_law_1703 recX11 rfl rfl hm0 rfl ⟨by decide, by decide⟩ (Nat.le_of_ble_eq_true rfl) ⟨by omega, by omega⟩ ⟨_, rfl, fun _ => rfl⟩ (fun ad2 hE2 hC => ?_)
  show AL z x 4 Q _ _ _ _ _ (wX z σ1 ad2 τ1)
  refine al_icmp_eq (tgt := 2151) hC dL_law_1706 rfl (fun _ => ?_) (fun g => absurd rfl g)
  exact kk ad2 (hE1.trans hE2)
theorem dL_law_1711 : decode code 1711 = .ok (.aload_n 1, 1) := by decide +kernel
theorem dL_law_1712 : decode code 1712 = .ok (.aload_n 0, 1) := by decide +kernel
theorem dL_law_1713 : decode code 1713 = .ok (.iload_n 3, 1) := by decide +kernel
theorem dL_law_1714 : decode code 1714 = .ok (.iconst 1, 1) := by decide +kernel
theorem dL_law_1715 : decode code 1715 = .ok (.iadd, 1) := by decide +kernel
theorem dL_law_1716 : decode code 1716 = .ok (.iaload, 1) := by decide +kernel
theorem dL_law_1717 : decode code 1717 = .ok (.aload_n 0, 1) := by decide +kernel
theorem dL_law_1718 : decode code 1718 = .ok (.iload_n 3, 1) := by decide +kernel
theorem dL_law_1719 : decode code 1719 = .ok (.iconst 2, 1) := by decide +kernel
theorem dL_law_1720 : decode code 1720 = .ok (.iadd, 1) := by decide +kernel
theorem dL_law_1721 : decode code 1721 = .ok (.iaload, 1) := by decide +kernel
theorem dL_law_1722 : decode code 1722 = .ok (.invokevirtual 168, 3) := by decide +kernel
theorem dL_law_1725 : decode code 1725 = .ok (.aload_n 2, 1) := by decide +kernel
theorem dL_law_1726 : decode code 1726 = .ok (.aload_n 0, 1) := by decide +kernel
theorem dL_law_1727 : decode code 1727 = .ok (.iload_n 3, 1) := by decide +kernel
theorem dL_law_1728 : decode code 1728 = .ok (.iconst 1, 1) := by decide +kernel
theorem dL_law_1729 : decode code 1729 = .ok (.iadd, 1) := by decide +kernel
theorem dL_law_1730 : decode code 1730 = .ok (.iaload, 1) := by decide +kernel
theorem dL_law_1731 : decode code 1731 = .ok (.aload_n 0, 1) := by decide +kernel
theorem dL_law_1732 : decode code 1732 = .ok (.iload_n 3, 1) := by decide +kernel
theorem dL_law_1733 : decode code 1733 = .ok (.iconst 2, 1) := by decide +kernel
theorem dL_law_1734 : decode code 1734 = .ok (.iadd, 1) := by decide +kernel
theorem dL_law_1735 : decode code 1735 = .ok (.iaload, 1) := by decide +kernel
theorem dL_law_1736 : decode code 1736 = .ok (.invokevirtual 171, 3) := by decide +kernel
theorem dL_law_1739 : decode code 1739 = .ok (.lcmp, 1) := by decide +kernel
theorem dL_law_1740 : decode code 1740 = .ok (.ifCond .eq 411, 3) := by decide +kernel
theorem dL_law_1743 : decode code 1743 = .ok (.iconst 0, 1) := by decide +kernel
theorem dL_law_1744 : decode code 1744 = .ok (.ireturn, 1) := by decide +kernel
set_option maxRecDepth 100000 in
theorem law_c36 {z : ZZ} {x : XX} {Q : State → Prop} {k n : Nat} {ad : Nat → Nat} {b L i x0 m0 : Nat} {xs : Nat → Int32} {σ σ1 : MS} {τ τ1 : XS} {r : Int64} (hC : CX z ad x code RL 4 ret) (hR : x.2.2.1 = room_1) (hX : SX z x b L xs) (hx0 : ad 36 = x0) (hm0 : ad 0 = m0) (hi : i + 4 < L) (hk : k + 0 ≤ 600000 ∧ n + 0 ≤ 7302250) (eτ : τ = τ1) (eσ : σ = σ1) (hW : W_worth τ (xs (i + 1)) (xs (i + 2)) = some r) (hM : M_worth σ (xs (i + 1)) (xs (i + 2)) = some r) (kk : ∀ ad2, exL ad ad2 → AL z x 4 Q (k + 0 + 0) (n + 0 + 0) 2151 [(3, .int (Int32.ofNat i)), (1, .ref x0), (2, .ref m0), (0, .ref b)] [] (wX z σ1 ad2 τ1)) : AL z x 4 Q k n 1711 [(3, .int (Int32.ofNat i)), (1, .ref x0), (2, .ref m0), (0, .ref b)] [] (wX z σ ad τ) := by
  subst eτ
  subst eσ
  refine al_aload_n (j := 1) hC rfl rfl dL_law_1711 ?_
  refine al_aload_n (j := 3) hC rfl rfl dL_law_1712 ?_
  refine al_iload_n (j := 0) hC rfl rfl dL_law_1713 ?_
  refine al_iconst (v := 1) hC rfl dL_law_1714 ?_
  refine al_iadd hC dL_law_1715 ?_
  refine al_sld (j := i + 1) hC hX (Int32.ofNat_add i 1).symm (by omega) dL_law_1716 ?_
  refine al_aload_n (j := 3) hC rfl rfl dL_law_1717 ?_
  refine al_iload_n (j := 0) hC rfl rfl dL_law_1718 ?_
  refine al_iconst (v := 2) hC rfl dL_law_1719 ?_
  refine al_iadd hC dL_law_1720 ?_
  refine al_sld (j := i + 2) hC hX (Int32.ofNat_add i 2).symm (by omega) dL_law_1721 ?_
  refine al_callL (w := wX z σ) (As := [.int (xs (i + 1)), .int (xs (i + 2))]) (rest := []) (s0 := τ) (s1 := τ) (r0 := r) (q := 36) hC hR lkl_168 (c_W_worth τ (xs (i + 1)) (xs (i + 2))) (by rw [hW]; rfl) (fun _ _ h => eqA.L h) dL_law_1722 recX10 rfl rfl hx0 rfl ⟨by decide, by decide⟩ (Nat.le_of_ble_eq_true rfl) ⟨by omega, by omega⟩ ⟨_, rfl, fun _ => rfl⟩ (fun ad1 hE1 hC => ?_)
  have hm0 := (hE1 0 (by omega)).trans hm0
  show AL z x 4 Q (k + 0) (n + 0) _ _ _ (wM z τ ad1 σ)
  refine al_aload_n (j := 2) hC rfl rfl dL_law_1725 ?_
  refine al_aload_n (j := 3) hC rfl rfl dL_law_1726 ?_
  refine al_iload_n (j := 0) hC rfl rfl dL_law_1727 ?_
  refine al_iconst (v := 1) hC rfl dL_law_1728 ?_
  refine al_iadd hC dL_law_1729 ?_
  refine al_sld (j := i + 1) hC hX (Int32.ofNat_add i 1).symm (by omega) dL_law_1730 ?_
  refine al_aload_n (j := 3) hC rfl rfl dL_law_1731 ?_
  refine al_iload_n (j := 0) hC rfl rfl dL_law_1732 ?_
  refine al_iconst (v := 2) hC rfl dL_law_1733 ?_
  refine al_iadd hC dL_law_1734 ?_
  refine al_sld (j := i + 2) hC hX (Int32.ofNat_add i 2).symm (by omega) dL_law_1735 ?_
  refine al_callL (w := wM z τ) (As := [.int (xs (i + 1)), .int (xs (i + 2))]) (rest := [.long r]) (s0 := σ) (s1 := σ) (r0 := r) (q := 0) hC hR lkl_171 (c_M_worth σ (xs (i + 1)) (xs (i + 2))) (by rw [hM]; rfl) (fun _ _ h => eqA.L h) dL_law_1736 recX11 rfl rfl hm0 rfl ⟨by decide, by decide⟩ (Nat.le_of_ble_eq_true rfl) ⟨by omega, by omega⟩ ⟨_, rfl, fun _ => rfl⟩ (fun ad2 hE2 hC => ?_)
  show AL z x 4 Q _ _ _ _ _ (wX z σ ad2 τ)
  refine al_lcmp hC dL_law_1739 ?_
  rw [ict_eq]
  refine al_if_eq (tgt := 2151) hC dL_law_1740 rfl (fun _ => ?_) (fun g => absurd rfl g)
  exact kk ad2 (hE1.trans hE2)
theorem dL_law_1745 : decode code 1745 = .ok (.aload_n 1, 1) := by decide +kernel
theorem dL_law_1746 : decode code 1746 = .ok (.aload_n 0, 1) := by decide +kernel
theorem dL_law_1747 : decode code 1747 = .ok (.iload_n 3, 1) := by decide +kernel
theorem dL_law_1748 : decode code 1748 = .ok (.iconst 1, 1) := by decide +kernel
theorem dL_law_1749 : decode code 1749 = .ok (.iadd, 1) := by decide +kernel
theorem dL_law_1750 : decode code 1750 = .ok (.iaload, 1) := by decide +kernel
theorem dL_law_1751 : decode code 1751 = .ok (.aload_n 0, 1) := by decide +kernel
theorem dL_law_1752 : decode code 1752 = .ok (.iload_n 3, 1) := by decide +kernel
theorem dL_law_1753 : decode code 1753 = .ok (.iconst 2, 1) := by decide +kernel
theorem dL_law_1754 : decode code 1754 = .ok (.iadd, 1) := by decide +kernel
theorem dL_law_1755 : decode code 1755 = .ok (.iaload, 1) := by decide +kernel
theorem dL_law_1756 : decode code 1756 = .ok (.invokevirtual 172, 3) := by decide +kernel
theorem dL_law_1759 : decode code 1759 = .ok (.aload_n 2, 1) := by decide +kernel
theorem dL_law_1760 : decode code 1760 = .ok (.aload_n 0, 1) := by decide +kernel
theorem dL_law_1761 : decode code 1761 = .ok (.iload_n 3, 1) := by decide +kernel
theorem dL_law_1762 : decode code 1762 = .ok (.iconst 1, 1) := by decide +kernel
theorem dL_law_1763 : decode code 1763 = .ok (.iadd, 1) := by decide +kernel
theorem dL_law_1764 : decode code 1764 = .ok (.iaload, 1) := by decide +kernel
theorem dL_law_1765 : decode code 1765 = .ok (.aload_n 0, 1) := by decide +kernel
theorem dL_law_1766 : decode code 1766 = .ok (.iload_n 3, 1) := by decide +kernel
theorem dL_law_1767 : decode code 1767 = .ok (.iconst 2, 1) := by decide +kernel
theorem dL_law_1768 : decode code 1768 = .ok (.iadd, 1) := by decide +kernel
theorem dL_law_1769 : decode code 1769 = .ok (.iaload, 1) := by decide +kernel
theorem dL_law_1770 : decode code 1770 = .ok (.invokevirtual 175, 3) := by decide +kernel
theorem dL_law_1773 : decode code 1773 = .ok (.lcmp, 1) := by decide +kernel
theorem dL_law_1774 : decode code 1774 = .ok (.ifCond .eq 377, 3) := by decide +kernel
theorem dL_law_1777 : decode code 1777 = .ok (.iconst 0, 1) := by decide +kernel
theorem dL_law_1778 : decode code 1778 = .ok (.ireturn, 1) := by decide +kernel
set_option maxRecDepth 100000 in
theorem law_c37 {z : ZZ} {x : XX} {Q : State → Prop} {k n : Nat} {ad : Nat → Nat} {b L i x0 m0 : Nat} {xs : Nat → Int32} {σ σ1 : MS} {τ τ1 : XS} {r : Int64} (hC : CX z ad x code RL 4 ret) (hR : x.2.2.1 = room_1) (hX : SX z x b L xs) (hx0 : ad 36 = x0) (hm0 : ad 0 = m0) (hi : i + 4 < L) (hk : k + 0 ≤ 600000 ∧ n + 0 ≤ 7302250) (hW : W_value τ (xs (i + 1)) (xs (i + 2)) = some (r, τ1)) (hM : M_value σ (xs (i + 1)) (xs (i + 2)) = some (r, σ1)) (kk : ∀ ad2, exL ad ad2 → AL z x 4 Q (k + 0 + 0) (n + 0 + 0) 2151 [(3, .int (Int32.ofNat i)), (1, .ref x0), (2, .ref m0), (0, .ref b)] [] (wX z σ1 ad2 τ1)) : AL z x 4 Q k n 1745 [(3, .int (Int32.ofNat i)), (1, .ref x0), (2, .ref m0), (0, .ref b)] [] (wX z σ ad τ) := by
  refine al_aload_n (j := 1) hC rfl rfl dL_law_1745 ?_
  refine al_aload_n (j := 3) hC rfl rfl dL_law_1746 ?_
  refine al_iload_n (j := 0) hC rfl rfl dL_law_1747 ?_
  refine al_iconst (v := 1) hC rfl dL_law_1748 ?_
  refine al_iadd hC dL_law_1749 ?_
  refine al_sld (j := i + 1) hC hX (Int32.ofNat_add i 1).symm (by omega) dL_law_1750 ?_
  refine al_aload_n (j := 3) hC rfl rfl dL_law_1751 ?_
  refine al_iload_n (j := 0) hC rfl rfl dL_law_1752 ?_
  refine al_iconst (v := 2) hC rfl dL_law_1753 ?_
  refine al_iadd hC dL_law_1754 ?_
  refine al_sld (j := i + 2) hC hX (Int32.ofNat_add i 2).symm (by omega) dL_law_1755 ?_
  refine al_callL (w := wX z σ) (As := [.int (xs (i + 1)), .int (xs (i + 2))]) (rest := []) (s0 := τ) (s1 := τ1) (r0 := r) (q := 36) hC hR lkl_172 (c_W_value τ (xs (i + 1)) (xs (i + 2))) hW (fun _ _ h => eqA.L h) dL_law_1756 recX10 rfl rfl hx0 rfl ⟨by decide, by decide⟩ (Nat.le_of_ble_eq_true rfl) ⟨by omega, by omega⟩ ⟨_, rfl, fun _ => rfl⟩ (fun ad1 hE1 hC => ?_)
  have hm0 := (hE1 0 (by omega)).trans hm0
  show AL z x 4 Q (k + 0) (n + 0) _ _ _ (wM z τ1 ad1 σ)
  refine al_aload_n (j := 2) hC rfl rfl dL_law_1759 ?_
  refine al_aload_n (j := 3) hC rfl rfl dL_law_1760 ?_
  refine al_iload_n (j := 0) hC rfl rfl dL_law_1761 ?_
  refine al_iconst (v := 1) hC rfl dL_law_1762 ?_
  refine al_iadd hC dL_law_1763 ?_
  refine al_sld (j := i + 1) hC hX (Int32.ofNat_add i 1).symm (by omega) dL_law_1764 ?_
  refine al_aload_n (j := 3) hC rfl rfl dL_law_1765 ?_
  refine al_iload_n (j := 0) hC rfl rfl dL_law_1766 ?_
  refine al_iconst (v := 2) hC rfl dL_law_1767 ?_
  refine al_iadd hC dL_law_1768 ?_
  refine al_sld (j := i + 2) hC hX (Int32.ofNat_add i 2).symm (by omega) dL_law_1769 ?_
  refine al_callL (w := wM z τ1) (As := [.int (xs (i + 1)), .int (xs (i + 2))]) (rest := [.long r]) (s0 := σ) (s1 := σ1) (r0 := r) (q := 0) hC hR lkl_175 (c_M_value σ (xs (i + 1)) (xs (i + 2))) hM (fun _ _ h => eqA.L h) dL_law_1770 recX11 rfl rfl hm0 rfl ⟨by decide, by decide⟩ (Nat.le_of_ble_eq_true rfl) ⟨by omega, by omega⟩ ⟨_, rfl, fun _ => rfl⟩ (fun ad2 hE2 hC => ?_)
  show AL z x 4 Q _ _ _ _ _ (wX z σ1 ad2 τ1)
  refine al_lcmp hC dL_law_1773 ?_
  rw [ict_eq]
  refine al_if_eq (tgt := 2151) hC dL_law_1774 rfl (fun _ => ?_) (fun g => absurd rfl g)
  exact kk ad2 (hE1.trans hE2)
theorem dL_law_1779 : decode code 1779 = .ok (.aload_n 1, 1) := by decide +kernel
theorem dL_law_1780 : decode code 1780 = .ok (.invokevirtual 176, 3) := by decide +kernel
theorem dL_law_1783 : decode code 1783 = .ok (.aload_n 2, 1) := by decide +kernel
theorem dL_law_1784 : decode code 1784 = .ok (.invokevirtual 180, 3) := by decide +kernel
theorem dL_law_1787 : decode code 1787 = .ok (.if_icmp .eq 364, 3) := by decide +kernel
theorem dL_law_1790 : decode code 1790 = .ok (.iconst 0, 1) := by decide +kernel
theorem dL_law_1791 : decode code 1791 = .ok (.ireturn, 1) := by decide +kernel
set_option maxRecDepth 100000 in
theorem law_c38 {z : ZZ} {x : XX} {Q : State → Prop} {k n : Nat} {ad : Nat → Nat} {b L i x0 m0 : Nat} {xs : Nat → Int32} {σ σ1 : MS} {τ τ1 : XS} {r : Int32} (hC : CX z ad x code RL 4 ret) (hR : x.2.2.1 = room_1) (hX : SX z x b L xs) (hx0 : ad 36 = x0) (hm0 : ad 0 = m0) (hi : i + 4 < L) (hk : k + 0 ≤ 600000 ∧ n + 0 ≤ 7302250) (hW : W_row τ = some (r, τ1)) (hM : M_row σ = some (r, σ1)) (kk : ∀ ad2, exL ad ad2 → AL z x 4 Q (k + 0 + 0) (n + 0 + 0) 2151 [(3, .int (Int32.ofNat i)), (1, .ref x0), (2, .ref m0), (0, .ref b)] [] (wX z σ1 ad2 τ1)) : AL z x 4 Q k n 1779 [(3, .int (Int32.ofNat i)), (1, .ref x0), (2, .ref m0), (0, .ref b)] [] (wX z σ ad τ) := by
  refine al_aload_n (j := 1) hC rfl rfl dL_law_1779 ?_
  refine al_callL (w := wX z σ) (As := []) (rest := []) (s0 := τ) (s1 := τ1) (r0 := r) (q := 36) hC hR lkl_176 (c_W_row τ) hW (fun _ _ h => eqA.L h) dL_law_1780 recX10 rfl rfl hx0 rfl ⟨by decide, by decide⟩ (Nat.le_of_ble_eq_true rfl) ⟨by omega, by omega⟩ ⟨_, rfl, fun _ => rfl⟩ (fun ad1 hE1 hC => ?_)
  have hm0 := (hE1 0 (by omega)).trans hm0
  show AL z x 4 Q (k + 0) (n + 0) _ _ _ (wM z τ1 ad1 σ)
  refine al_aload_n (j := 2) hC rfl rfl dL_law_1783 ?_
  refine al_callL (w := wM z τ1) (As := []) (rest := [.int r]) (s0 := σ) (s1 := σ1) (r0 := r) (q := 0) hC hR lkl_180 (c_M_row σ) hM (fun _ _ h => eqA.L h) dL_law_1784 recX11 rfl rfl hm0 rfl ⟨by decide, by decide⟩ (Nat.le_of_ble_eq_true rfl) ⟨by omega, by omega⟩ ⟨_, rfl, fun _ => rfl⟩ (fun ad2 hE2 hC => ?_)
  show AL z x 4 Q _ _ _ _ _ (wX z σ1 ad2 τ1)
  refine al_icmp_eq (tgt := 2151) hC dL_law_1787 rfl (fun _ => ?_) (fun g => absurd rfl g)
  exact kk ad2 (hE1.trans hE2)
theorem dL_law_1792 : decode code 1792 = .ok (.aload_n 1, 1) := by decide +kernel
theorem dL_law_1793 : decode code 1793 = .ok (.aload_n 0, 1) := by decide +kernel
theorem dL_law_1794 : decode code 1794 = .ok (.iload_n 3, 1) := by decide +kernel
theorem dL_law_1795 : decode code 1795 = .ok (.iconst 1, 1) := by decide +kernel
theorem dL_law_1796 : decode code 1796 = .ok (.iadd, 1) := by decide +kernel
theorem dL_law_1797 : decode code 1797 = .ok (.iaload, 1) := by decide +kernel
theorem dL_law_1798 : decode code 1798 = .ok (.aload_n 0, 1) := by decide +kernel
theorem dL_law_1799 : decode code 1799 = .ok (.iload_n 3, 1) := by decide +kernel
theorem dL_law_1800 : decode code 1800 = .ok (.iconst 2, 1) := by decide +kernel
theorem dL_law_1801 : decode code 1801 = .ok (.iadd, 1) := by decide +kernel
theorem dL_law_1802 : decode code 1802 = .ok (.iaload, 1) := by decide +kernel
theorem dL_law_1803 : decode code 1803 = .ok (.aload_n 0, 1) := by decide +kernel
theorem dL_law_1804 : decode code 1804 = .ok (.iload_n 3, 1) := by decide +kernel
theorem dL_law_1805 : decode code 1805 = .ok (.iconst 3, 1) := by decide +kernel
theorem dL_law_1806 : decode code 1806 = .ok (.iadd, 1) := by decide +kernel
theorem dL_law_1807 : decode code 1807 = .ok (.iaload, 1) := by decide +kernel
theorem dL_law_1808 : decode code 1808 = .ok (.invokevirtual 181, 3) := by decide +kernel
theorem dL_law_1811 : decode code 1811 = .ok (.aload_n 2, 1) := by decide +kernel
theorem dL_law_1812 : decode code 1812 = .ok (.aload_n 0, 1) := by decide +kernel
theorem dL_law_1813 : decode code 1813 = .ok (.iload_n 3, 1) := by decide +kernel
theorem dL_law_1814 : decode code 1814 = .ok (.iconst 1, 1) := by decide +kernel
theorem dL_law_1815 : decode code 1815 = .ok (.iadd, 1) := by decide +kernel
theorem dL_law_1816 : decode code 1816 = .ok (.iaload, 1) := by decide +kernel
theorem dL_law_1817 : decode code 1817 = .ok (.aload_n 0, 1) := by decide +kernel
theorem dL_law_1818 : decode code 1818 = .ok (.iload_n 3, 1) := by decide +kernel
theorem dL_law_1819 : decode code 1819 = .ok (.iconst 2, 1) := by decide +kernel
theorem dL_law_1820 : decode code 1820 = .ok (.iadd, 1) := by decide +kernel
theorem dL_law_1821 : decode code 1821 = .ok (.iaload, 1) := by decide +kernel
theorem dL_law_1822 : decode code 1822 = .ok (.aload_n 0, 1) := by decide +kernel
theorem dL_law_1823 : decode code 1823 = .ok (.iload_n 3, 1) := by decide +kernel
theorem dL_law_1824 : decode code 1824 = .ok (.iconst 3, 1) := by decide +kernel
theorem dL_law_1825 : decode code 1825 = .ok (.iadd, 1) := by decide +kernel
theorem dL_law_1826 : decode code 1826 = .ok (.iaload, 1) := by decide +kernel
theorem dL_law_1827 : decode code 1827 = .ok (.invokevirtual 184, 3) := by decide +kernel
theorem dL_law_1830 : decode code 1830 = .ok (.if_icmp .eq 321, 3) := by decide +kernel
theorem dL_law_1833 : decode code 1833 = .ok (.iconst 0, 1) := by decide +kernel
theorem dL_law_1834 : decode code 1834 = .ok (.ireturn, 1) := by decide +kernel
set_option maxRecDepth 100000 in
theorem law_c39 {z : ZZ} {x : XX} {Q : State → Prop} {k n : Nat} {ad : Nat → Nat} {b L i x0 m0 : Nat} {xs : Nat → Int32} {σ σ1 : MS} {τ τ1 : XS} {r : Int32} (hC : CX z ad x code RL 4 ret) (hR : x.2.2.1 = room_1) (hX : SX z x b L xs) (hx0 : ad 36 = x0) (hm0 : ad 0 = m0) (hi : i + 4 < L) (hk : k + 0 ≤ 600000 ∧ n + 0 ≤ 7302250) (hW : W_rows τ (xs (i + 1)) (xs (i + 2)) (xs (i + 3)) = some (r, τ1)) (hM : M_rows σ (xs (i + 1)) (xs (i + 2)) (xs (i + 3)) = some (r, σ1)) (kk : ∀ ad2, exL ad ad2 → AL z x 4 Q (k + 0 + 0) (n + 0 + 0) 2151 [(3, .int (Int32.ofNat i)), (1, .ref x0), (2, .ref m0), (0, .ref b)] [] (wX z σ1 ad2 τ1)) : AL z x 4 Q k n 1792 [(3, .int (Int32.ofNat i)), (1, .ref x0), (2, .ref m0), (0, .ref b)] [] (wX z σ ad τ) := by
  refine al_aload_n (j := 1) hC rfl rfl dL_law_1792 ?_
  refine al_aload_n (j := 3) hC rfl rfl dL_law_1793 ?_
  refine al_iload_n (j := 0) hC rfl rfl dL_law_1794 ?_
  refine al_iconst (v := 1) hC rfl dL_law_1795 ?_
  refine al_iadd hC dL_law_1796 ?_
  refine al_sld (j := i + 1) hC hX (Int32.ofNat_add i 1).symm (by omega) dL_law_1797 ?_
  refine al_aload_n (j := 3) hC rfl rfl dL_law_1798 ?_
  refine al_iload_n (j := 0) hC rfl rfl dL_law_1799 ?_
  refine al_iconst (v := 2) hC rfl dL_law_1800 ?_
  refine al_iadd hC dL_law_1801 ?_
  refine al_sld (j := i + 2) hC hX (Int32.ofNat_add i 2).symm (by omega) dL_law_1802 ?_
  refine al_aload_n (j := 3) hC rfl rfl dL_law_1803 ?_
  refine al_iload_n (j := 0) hC rfl rfl dL_law_1804 ?_
  refine al_iconst (v := 3) hC rfl dL_law_1805 ?_
  refine al_iadd hC dL_law_1806 ?_
  refine al_sld (j := i + 3) hC hX (Int32.ofNat_add i 3).symm (by omega) dL_law_1807 ?_
  refine al_callL (w := wX z σ) (As := [.int (xs (i + 1)), .int (xs (i + 2)), .int (xs (i + 3))]) (rest := []) (s0 := τ) (s1 := τ1) (r0 := r) (q := 36) hC hR lkl_181 (c_W_rows τ (xs (i + 1)) (xs (i + 2)) (xs (i + 3))) hW (fun _ _ h => eqA.L h) dL_law_1808 recX10 rfl rfl hx0 rfl ⟨by decide, by decide⟩ (Nat.le_of_ble_eq_true rfl) ⟨by omega, by omega⟩ ⟨_, rfl, fun _ => rfl⟩ (fun ad1 hE1 hC => ?_)
  have hm0 := (hE1 0 (by omega)).trans hm0
  show AL z x 4 Q (k + 0) (n + 0) _ _ _ (wM z τ1 ad1 σ)
  refine al_aload_n (j := 2) hC rfl rfl dL_law_1811 ?_
  refine al_aload_n (j := 3) hC rfl rfl dL_law_1812 ?_
  refine al_iload_n (j := 0) hC rfl rfl dL_law_1813 ?_
  refine al_iconst (v := 1) hC rfl dL_law_1814 ?_
  refine al_iadd hC dL_law_1815 ?_
  refine al_sld (j := i + 1) hC hX (Int32.ofNat_add i 1).symm (by omega) dL_law_1816 ?_
  refine al_aload_n (j := 3) hC rfl rfl dL_law_1817 ?_
  refine al_iload_n (j := 0) hC rfl rfl dL_law_1818 ?_
  refine al_iconst (v := 2) hC rfl dL_law_1819 ?_
  refine al_iadd hC dL_law_1820 ?_
  refine al_sld (j := i + 2) hC hX (Int32.ofNat_add i 2).symm (by omega) dL_law_1821 ?_
  refine al_aload_n (j := 3) hC rfl rfl dL_law_1822 ?_
  refine al_iload_n (j := 0) hC rfl rfl dL_law_1823 ?_
  refine al_iconst (v := 3) hC rfl dL_law_1824 ?_
  refine al_iadd hC dL_law_1825 ?_
  refine al_sld (j := i + 3) hC hX (Int32.ofNat_add i 3).symm (by omega) dL_law_1826 ?_
  refine al_callL (w := wM z τ1) (As := [.int (xs (i + 1)), .int (xs (i + 2)), .int (xs (i + 3))]) (rest := [.int r]) (s0 := σ) (s1 := σ1) (r0 := r) (q := 0) hC hR lkl_184 (c_M_rows σ (xs (i + 1)) (xs (i + 2)) (xs (i + 3))) hM (fun _ _ h => eqA.L h) dL_law_1827 recX11 rfl rfl hm0 rfl ⟨by decide, by decide⟩ (Nat.le_of_ble_eq_true rfl) ⟨by omega, by omega⟩ ⟨_, rfl, fun _ => rfl⟩ (fun ad2 hE2 hC => ?_)
  show AL z x 4 Q _ _ _ _ _ (wX z σ1 ad2 τ1)
  refine al_icmp_eq (tgt := 2151) hC dL_law_1830 rfl (fun _ => ?_) (fun g => absurd rfl g)
  exact kk ad2 (hE1.trans hE2)
