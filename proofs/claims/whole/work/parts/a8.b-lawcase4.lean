/-! BY HAND 27: the law's turns, 4 -/
theorem gLtoss : GoodIn wsLw (wsV RL 202 RX11 yX11_toss wsTs) := goodIn_app (goodIn_of _ (by decide +kernel)) (goodIn_app (gLift ggL_law_X11_toss) (goodIn_of _ (by decide +kernel)))
section Glc3
variable {p : Program} {l : Launch} {e : Env} {s : State} {m : MethodId} {below : List Frame} {meth : Method} {c : Code} {cells slots : Nat} {Q : State → Prop}
variable {D : va_G} {ca : Ca} {ad : Int → Nat} {A : Nat → Prop} {σ : Mem} {b L : Nat} {xs : Nat → Int32} {u : Int}
theorem law_c36 (C : Cx p s m [Value.ref b].toArray c cL_law 8 RL wsLw D ca A) (hX : va_X b L xs s s.heap) (hbl : b < s.heap.size) (hbA : ¬ A b) (hR : Rel σ) (hu : 0 ≤ u ∧ u + 5 < (L : Int)) (hL : L ≤ 384) (hcs : cells ≤ 600000 ∧ slots ≤ 7300000) (kk : ∀ (σ' : Mem) (cells' slots' : Nat), Rel σ' → cells' ≤ cells + 1 → slots' ≤ slots + 6 → G p l e room_1 s m [Value.ref b].toArray below meth c 8 D ca ad A cells' slots' Q σ' 1842 (lvB b ad u) []) : G p l e room_1 s m [Value.ref b].toArray below meth c 8 D ca ad A cells slots Q σ 1493 (lvB b ad u) [] := by
  obtain ⟨n, m9, hn, hm, hn4, hm4⟩ := hR.nm
  have hj1 : s32 (u + 1) = (((u + 1).toNat : Nat) : Int) := by rw [s32_of (by omega) (by omega)]; omega
  have hj2 : s32 (u + 2) = (((u + 2).toNat : Nat) : Int) := by rw [s32_of (by omega) (by omega)]; omega
  have hj3 : s32 (u + 3) = (((u + 3).toNat : Nat) : Int) := by rw [s32_of (by omega) (by omega)]; omega
  have hj4 : s32 (u + 4) = (((u + 4).toNat : Nat) : Int) := by rw [s32_of (by omega) (by omega)]; omega
  obtain ⟨r, σ1, σ2, h1, h2, hR2⟩ := op_keep hR (s32_ti (xs (u + 1).toNat)) (s32_ti (xs (u + 2).toNat)) (s32_ti (xs (u + 3).toNat)) (s32_ti (xs (u + 4).toNat))
  refine g_aload_n (i := 1) C dL_law_1493 rfl rfl ?_
  refine g_arg C hX hbl hbA rfl rfl hj1 (by clear hj1 hj2 hj3 hj4; omega) dL_law_1494 dL_law_1495 dL_law_1497 dL_law_1498 dL_law_1499 ?_
  refine g_arg C hX hbl hbA rfl rfl hj2 (by clear hj1 hj2 hj3 hj4; omega) dL_law_1500 dL_law_1501 dL_law_1503 dL_law_1504 dL_law_1505 ?_
  refine g_arg C hX hbl hbA rfl rfl hj3 (by clear hj1 hj2 hj3 hj4; omega) dL_law_1506 dL_law_1507 dL_law_1509 dL_law_1510 dL_law_1511 ?_
  refine g_arg C hX hbl hbA rfl rfl hj4 (by clear hj1 hj2 hj3 hj4; omega) dL_law_1512 dL_law_1513 dL_law_1515 dL_law_1516 dL_law_1517 ?_
  refine g_callVm C (c_X11_keep h1 hn hm hn4 hm4 (s32_ti _) (s32_ti _)) wd_blind (fun H locs hw hS => wd_now C hw hS) (cwV 4 C.2.2.2.2.1 (gLift gL_law_X11_keep) rfl rfl rfl (by decide +kernel) ⟨Nat.le_of_ble_eq_true rfl, Nat.le_of_ble_eq_true rfl⟩) ob_X11 rfl rfl rfl rfl (Nat.le_of_ble_eq_true rfl) dL_law_1518 ⟨Nat.le_trans (Nat.add_le_add_right hcs.1 _) (Nat.le_of_ble_eq_true rfl), Nat.le_trans (Nat.add_le_add_right hcs.2 _) (Nat.le_of_ble_eq_true rfl)⟩ ?_
  refine g_aload_n (i := 2) C dL_law_1521 rfl rfl ?_
  refine g_arg C hX hbl hbA rfl rfl hj1 (by clear hj1 hj2 hj3 hj4; omega) dL_law_1522 dL_law_1523 dL_law_1525 dL_law_1526 dL_law_1527 ?_
  refine g_arg C hX hbl hbA rfl rfl hj2 (by clear hj1 hj2 hj3 hj4; omega) dL_law_1528 dL_law_1529 dL_law_1531 dL_law_1532 dL_law_1533 ?_
  refine g_arg C hX hbl hbA rfl rfl hj3 (by clear hj1 hj2 hj3 hj4; omega) dL_law_1534 dL_law_1535 dL_law_1537 dL_law_1538 dL_law_1539 ?_
  refine g_arg C hX hbl hbA rfl rfl hj4 (by clear hj1 hj2 hj3 hj4; omega) dL_law_1540 dL_law_1541 dL_law_1543 dL_law_1544 dL_law_1545 ?_
  refine g_callVi C (c_X12_keep h2) (cwV 4 C.2.2.2.2.1 (gLift gL_law_X12_keep) rfl rfl rfl (by decide +kernel) ⟨Nat.le_of_ble_eq_true rfl, Nat.le_of_ble_eq_true rfl⟩) ob_X12 rfl rfl rfl rfl (Nat.le_of_ble_eq_true rfl) dL_law_1546 ⟨Nat.le_trans (Nat.add_le_add_right hcs.1 _) (Nat.le_of_ble_eq_true rfl), Nat.le_trans (Nat.add_le_add_right hcs.2 _) (Nat.le_of_ble_eq_true rfl)⟩ ?_
  exact g_icmp_eq (tgt := 1842) C dL_law_1549 (by decide) rfl rfl (fun _ => kk _ _ _ hR2 (Nat.le_refl _) (Nat.add_le_add_left (Nat.le_of_ble_eq_true rfl) _)) (fun z => absurd rfl z)
theorem law_c37 (C : Cx p s m [Value.ref b].toArray c cL_law 8 RL wsLw D ca A) (hX : va_X b L xs s s.heap) (hbl : b < s.heap.size) (hbA : ¬ A b) (hR : Rel σ) (hu : 0 ≤ u ∧ u + 5 < (L : Int)) (hL : L ≤ 384) (hcs : cells ≤ 600000 ∧ slots ≤ 7300000) (kk : ∀ (σ' : Mem) (cells' slots' : Nat), Rel σ' → cells' ≤ cells + 1 → slots' ≤ slots + 6 → G p l e room_1 s m [Value.ref b].toArray below meth c 8 D ca ad A cells' slots' Q σ' 1842 (lvB b ad u) []) : G p l e room_1 s m [Value.ref b].toArray below meth c 8 D ca ad A cells slots Q σ 1554 (lvB b ad u) [] := by
  have hj1 : s32 (u + 1) = (((u + 1).toNat : Nat) : Int) := by rw [s32_of (by omega) (by omega)]; omega
  have hj2 : s32 (u + 2) = (((u + 2).toNat : Nat) : Int) := by rw [s32_of (by omega) (by omega)]; omega
  have hj3 : s32 (u + 3) = (((u + 3).toNat : Nat) : Int) := by rw [s32_of (by omega) (by omega)]; omega
  obtain ⟨r, σ1, σ2, h1, h2, hR2⟩ := op_row hR (s32_ti (xs (u + 1).toNat)) (s32_ti (xs (u + 2).toNat)) (s32_ti (xs (u + 3).toNat))
  refine g_aload_n (i := 1) C dL_law_1554 rfl rfl ?_
  refine g_arg C hX hbl hbA rfl rfl hj1 (by clear hj1 hj2 hj3; omega) dL_law_1555 dL_law_1556 dL_law_1558 dL_law_1559 dL_law_1560 ?_
  refine g_arg C hX hbl hbA rfl rfl hj2 (by clear hj1 hj2 hj3; omega) dL_law_1561 dL_law_1562 dL_law_1564 dL_law_1565 dL_law_1566 ?_
  refine g_arg C hX hbl hbA rfl rfl hj3 (by clear hj1 hj2 hj3; omega) dL_law_1567 dL_law_1568 dL_law_1570 dL_law_1571 dL_law_1572 ?_
  refine g_callVi C (c_X11_row h1) (cwV 3 C.2.2.2.2.1 (gLift gL_law_X11_row) rfl rfl rfl (by decide +kernel) ⟨Nat.le_of_ble_eq_true rfl, Nat.le_of_ble_eq_true rfl⟩) ob_X11 rfl rfl rfl rfl (Nat.le_of_ble_eq_true rfl) dL_law_1573 ⟨Nat.le_trans hcs.1 (Nat.le_of_ble_eq_true rfl), Nat.le_trans hcs.2 (Nat.le_of_ble_eq_true rfl)⟩ ?_
  refine g_aload_n (i := 2) C dL_law_1576 rfl rfl ?_
  refine g_arg C hX hbl hbA rfl rfl hj1 (by clear hj1 hj2 hj3; omega) dL_law_1577 dL_law_1578 dL_law_1580 dL_law_1581 dL_law_1582 ?_
  refine g_arg C hX hbl hbA rfl rfl hj2 (by clear hj1 hj2 hj3; omega) dL_law_1583 dL_law_1584 dL_law_1586 dL_law_1587 dL_law_1588 ?_
  refine g_arg C hX hbl hbA rfl rfl hj3 (by clear hj1 hj2 hj3; omega) dL_law_1589 dL_law_1590 dL_law_1592 dL_law_1593 dL_law_1594 ?_
  refine g_callVi C (c_X12_row h2) (cwV 3 C.2.2.2.2.1 (gLift gL_law_X12_row) rfl rfl rfl (by decide +kernel) ⟨Nat.le_of_ble_eq_true rfl, Nat.le_of_ble_eq_true rfl⟩) ob_X12 rfl rfl rfl rfl (Nat.le_of_ble_eq_true rfl) dL_law_1595 ⟨Nat.le_trans hcs.1 (Nat.le_of_ble_eq_true rfl), Nat.le_trans hcs.2 (Nat.le_of_ble_eq_true rfl)⟩ ?_
  exact g_icmp_eq (tgt := 1842) C dL_law_1598 (by decide) rfl rfl (fun _ => kk _ _ _ hR2 (Nat.le_succ _) (Nat.le_add_right _ _)) (fun z => absurd rfl z)
theorem law_c38 (C : Cx p s m [Value.ref b].toArray c cL_law 8 RL wsLw D ca A) (hX : va_X b L xs s s.heap) (hbl : b < s.heap.size) (hbA : ¬ A b) (hR : Rel σ) (hu : 0 ≤ u ∧ u + 5 < (L : Int)) (hL : L ≤ 384) (hcs : cells ≤ 600000 ∧ slots ≤ 7300000) (kk : ∀ (σ' : Mem) (cells' slots' : Nat), Rel σ' → cells' ≤ cells + 1 → slots' ≤ slots + 6 → G p l e room_1 s m [Value.ref b].toArray below meth c 8 D ca ad A cells' slots' Q σ' 1842 (lvB b ad u) []) : G p l e room_1 s m [Value.ref b].toArray below meth c 8 D ca ad A cells slots Q σ 1603 (lvB b ad u) [] := by
  have hj1 : s32 (u + 1) = (((u + 1).toNat : Nat) : Int) := by rw [s32_of (by omega) (by omega)]; omega
  have hj2 : s32 (u + 2) = (((u + 2).toNat : Nat) : Int) := by rw [s32_of (by omega) (by omega)]; omega
  have hj3 : s32 (u + 3) = (((u + 3).toNat : Nat) : Int) := by rw [s32_of (by omega) (by omega)]; omega
  obtain ⟨r, σ1, σ2, h1, h2, hR2⟩ := op_put hR (s32_ti (xs (u + 1).toNat)) (s32_ti (xs (u + 2).toNat)) (s32_ti (xs (u + 3).toNat))
  refine g_aload_n (i := 1) C dL_law_1603 rfl rfl ?_
  refine g_arg C hX hbl hbA rfl rfl hj1 (by clear hj1 hj2 hj3; omega) dL_law_1604 dL_law_1605 dL_law_1607 dL_law_1608 dL_law_1609 ?_
  refine g_arg C hX hbl hbA rfl rfl hj2 (by clear hj1 hj2 hj3; omega) dL_law_1610 dL_law_1611 dL_law_1613 dL_law_1614 dL_law_1615 ?_
  refine g_arg C hX hbl hbA rfl rfl hj3 (by clear hj1 hj2 hj3; omega) dL_law_1616 dL_law_1617 dL_law_1619 dL_law_1620 dL_law_1621 ?_
  refine g_callVi C (c_X11_put h1) (cwV 3 C.2.2.2.2.1 (gLift gL_law_X11_put) rfl rfl rfl (by decide +kernel) ⟨Nat.le_of_ble_eq_true rfl, Nat.le_of_ble_eq_true rfl⟩) ob_X11 rfl rfl rfl rfl (Nat.le_of_ble_eq_true rfl) dL_law_1622 ⟨Nat.le_trans hcs.1 (Nat.le_of_ble_eq_true rfl), Nat.le_trans hcs.2 (Nat.le_of_ble_eq_true rfl)⟩ ?_
  refine g_aload_n (i := 2) C dL_law_1625 rfl rfl ?_
  refine g_arg C hX hbl hbA rfl rfl hj1 (by clear hj1 hj2 hj3; omega) dL_law_1626 dL_law_1627 dL_law_1629 dL_law_1630 dL_law_1631 ?_
  refine g_arg C hX hbl hbA rfl rfl hj2 (by clear hj1 hj2 hj3; omega) dL_law_1632 dL_law_1633 dL_law_1635 dL_law_1636 dL_law_1637 ?_
  refine g_arg C hX hbl hbA rfl rfl hj3 (by clear hj1 hj2 hj3; omega) dL_law_1638 dL_law_1639 dL_law_1641 dL_law_1642 dL_law_1643 ?_
  refine g_callVi C (c_X12_put h2) (cwV 3 C.2.2.2.2.1 (gLift gL_law_X12_put) rfl rfl rfl (by decide +kernel) ⟨Nat.le_of_ble_eq_true rfl, Nat.le_of_ble_eq_true rfl⟩) ob_X12 rfl rfl rfl rfl (Nat.le_of_ble_eq_true rfl) dL_law_1644 ⟨Nat.le_trans hcs.1 (Nat.le_of_ble_eq_true rfl), Nat.le_trans hcs.2 (Nat.le_of_ble_eq_true rfl)⟩ ?_
  exact g_icmp_eq (tgt := 1842) C dL_law_1647 (by decide) rfl rfl (fun _ => kk _ _ _ hR2 (Nat.le_succ _) (Nat.le_add_right _ _)) (fun z => absurd rfl z)
theorem law_c40 (C : Cx p s m [Value.ref b].toArray c cL_law 8 RL wsLw D ca A) (hX : va_X b L xs s s.heap) (hbl : b < s.heap.size) (hbA : ¬ A b) (hR : Rel σ) (hu : 0 ≤ u ∧ u + 5 < (L : Int)) (hL : L ≤ 384) (hcs : cells ≤ 600000 ∧ slots ≤ 7300000) (kk : ∀ (σ' : Mem) (cells' slots' : Nat), Rel σ' → cells' ≤ cells + 1 → slots' ≤ slots + 6 → G p l e room_1 s m [Value.ref b].toArray below meth c 8 D ca ad A cells' slots' Q σ' 1842 (lvB b ad u) []) : G p l e room_1 s m [Value.ref b].toArray below meth c 8 D ca ad A cells slots Q σ 1719 (lvB b ad u) [] := by
  have hj1 : s32 (u + 1) = (((u + 1).toNat : Nat) : Int) := by rw [s32_of (by omega) (by omega)]; omega
  have hj2 : s32 (u + 2) = (((u + 2).toNat : Nat) : Int) := by rw [s32_of (by omega) (by omega)]; omega
  have hj3 : s32 (u + 3) = (((u + 3).toNat : Nat) : Int) := by rw [s32_of (by omega) (by omega)]; omega
  have hj4 : s32 (u + 4) = (((u + 4).toNat : Nat) : Int) := by rw [s32_of (by omega) (by omega)]; omega
  have hj5 : s32 (u + 5) = (((u + 5).toNat : Nat) : Int) := by rw [s32_of (by omega) (by omega)]; omega
  obtain ⟨r, σ1, σ2, h1, h2, hR2⟩ := op_copy hR (s32_ti (xs (u + 1).toNat)) (s32_ti (xs (u + 2).toNat)) (s32_ti (xs (u + 3).toNat)) (s32_ti (xs (u + 4).toNat)) (s32_ti (xs (u + 5).toNat))
  refine g_aload_n (i := 1) C dL_law_1719 rfl rfl ?_
  refine g_arg C hX hbl hbA rfl rfl hj1 (by clear hj1 hj2 hj3 hj4 hj5; omega) dL_law_1720 dL_law_1721 dL_law_1723 dL_law_1724 dL_law_1725 ?_
  refine g_arg C hX hbl hbA rfl rfl hj2 (by clear hj1 hj2 hj3 hj4 hj5; omega) dL_law_1726 dL_law_1727 dL_law_1729 dL_law_1730 dL_law_1731 ?_
  refine g_arg C hX hbl hbA rfl rfl hj3 (by clear hj1 hj2 hj3 hj4 hj5; omega) dL_law_1732 dL_law_1733 dL_law_1735 dL_law_1736 dL_law_1737 ?_
  refine g_arg C hX hbl hbA rfl rfl hj4 (by clear hj1 hj2 hj3 hj4 hj5; omega) dL_law_1738 dL_law_1739 dL_law_1741 dL_law_1742 dL_law_1743 ?_
  refine g_arg C hX hbl hbA rfl rfl hj5 (by clear hj1 hj2 hj3 hj4 hj5; omega) dL_law_1744 dL_law_1745 dL_law_1747 dL_law_1748 dL_law_1749 ?_
  refine g_callVi C (c_X11_copy h1) (cwV 5 C.2.2.2.2.1 (gLift gL_law_X11_copy) rfl rfl rfl (by decide +kernel) ⟨Nat.le_of_ble_eq_true rfl, Nat.le_of_ble_eq_true rfl⟩) ob_X11 rfl rfl rfl rfl (Nat.le_of_ble_eq_true rfl) dL_law_1750 ⟨Nat.le_trans hcs.1 (Nat.le_of_ble_eq_true rfl), Nat.le_trans hcs.2 (Nat.le_of_ble_eq_true rfl)⟩ ?_
  refine g_aload_n (i := 2) C dL_law_1753 rfl rfl ?_
  refine g_arg C hX hbl hbA rfl rfl hj1 (by clear hj1 hj2 hj3 hj4 hj5; omega) dL_law_1754 dL_law_1755 dL_law_1757 dL_law_1758 dL_law_1759 ?_
  refine g_arg C hX hbl hbA rfl rfl hj2 (by clear hj1 hj2 hj3 hj4 hj5; omega) dL_law_1760 dL_law_1761 dL_law_1763 dL_law_1764 dL_law_1765 ?_
  refine g_arg C hX hbl hbA rfl rfl hj3 (by clear hj1 hj2 hj3 hj4 hj5; omega) dL_law_1766 dL_law_1767 dL_law_1769 dL_law_1770 dL_law_1771 ?_
  refine g_arg C hX hbl hbA rfl rfl hj4 (by clear hj1 hj2 hj3 hj4 hj5; omega) dL_law_1772 dL_law_1773 dL_law_1775 dL_law_1776 dL_law_1777 ?_
  refine g_arg C hX hbl hbA rfl rfl hj5 (by clear hj1 hj2 hj3 hj4 hj5; omega) dL_law_1778 dL_law_1779 dL_law_1781 dL_law_1782 dL_law_1783 ?_
  refine g_callVi C (c_X12_copy h2) (cwV 5 C.2.2.2.2.1 (gLift gL_law_X12_copy) rfl rfl rfl (by decide +kernel) ⟨Nat.le_of_ble_eq_true rfl, Nat.le_of_ble_eq_true rfl⟩) ob_X12 rfl rfl rfl rfl (Nat.le_of_ble_eq_true rfl) dL_law_1784 ⟨Nat.le_trans hcs.1 (Nat.le_of_ble_eq_true rfl), Nat.le_trans hcs.2 (Nat.le_of_ble_eq_true rfl)⟩ ?_
  exact g_icmp_eq (tgt := 1842) C dL_law_1787 (by decide) rfl rfl (fun _ => kk _ _ _ hR2 (Nat.le_succ _) (Nat.le_add_right _ _)) (fun z => absurd rfl z)
theorem law_c41 (C : Cx p s m [Value.ref b].toArray c cL_law 8 RL wsLw D ca A) (hX : va_X b L xs s s.heap) (hbl : b < s.heap.size) (hbA : ¬ A b) (hR : Rel σ) (hu : 0 ≤ u ∧ u + 5 < (L : Int)) (hL : L ≤ 384) (hcs : cells ≤ 600000 ∧ slots ≤ 7300000) (kk : ∀ (σ' : Mem) (cells' slots' : Nat), Rel σ' → cells' ≤ cells + 1 → slots' ≤ slots + 6 → G p l e room_1 s m [Value.ref b].toArray below meth c 8 D ca ad A cells' slots' Q σ' 1842 (lvB b ad u) []) : G p l e room_1 s m [Value.ref b].toArray below meth c 8 D ca ad A cells slots Q σ 1792 (lvB b ad u) [] := by
  have hj1 : s32 (u + 1) = (((u + 1).toNat : Nat) : Int) := by rw [s32_of (by omega) (by omega)]; omega
  obtain ⟨r, σ1, σ2, h1, h2, hR2⟩ := op_breadth hR (s32_ti (xs (u + 1).toNat))
  refine g_aload_n (i := 1) C dL_law_1792 rfl rfl ?_
  refine g_arg C hX hbl hbA rfl rfl hj1 (by clear hj1; omega) dL_law_1793 dL_law_1794 dL_law_1796 dL_law_1797 dL_law_1798 ?_
  refine g_callVi C (c_X11_breadth h1 (fun hx h3 => (hR.fit hx h3).1)) (cwV 1 C.2.2.2.2.1 (gLift gL_law_X11_breadth) rfl rfl rfl (by decide +kernel) ⟨Nat.le_of_ble_eq_true rfl, Nat.le_of_ble_eq_true rfl⟩) ob_X11 rfl rfl rfl rfl (Nat.le_of_ble_eq_true rfl) dL_law_1799 ⟨Nat.le_trans hcs.1 (Nat.le_of_ble_eq_true rfl), Nat.le_trans hcs.2 (Nat.le_of_ble_eq_true rfl)⟩ ?_
  refine g_aload_n (i := 2) C dL_law_1802 rfl rfl ?_
  refine g_arg C hX hbl hbA rfl rfl hj1 (by clear hj1; omega) dL_law_1803 dL_law_1804 dL_law_1806 dL_law_1807 dL_law_1808 ?_
  refine g_callVi C (c_X12_breadth h2) (cwV 1 C.2.2.2.2.1 (gLift gL_law_X12_breadth) rfl rfl rfl (by decide +kernel) ⟨Nat.le_of_ble_eq_true rfl, Nat.le_of_ble_eq_true rfl⟩) ob_X12 rfl rfl rfl rfl (Nat.le_of_ble_eq_true rfl) dL_law_1809 ⟨Nat.le_trans hcs.1 (Nat.le_of_ble_eq_true rfl), Nat.le_trans hcs.2 (Nat.le_of_ble_eq_true rfl)⟩ ?_
  exact g_icmp_eq (tgt := 1842) C dL_law_1812 (by decide) rfl rfl (fun _ => kk _ _ _ hR2 (Nat.le_succ _) (Nat.le_add_right _ _)) (fun z => absurd rfl z)
theorem law_c42 (C : Cx p s m [Value.ref b].toArray c cL_law 8 RL wsLw D ca A) (hX : va_X b L xs s s.heap) (hbl : b < s.heap.size) (hbA : ¬ A b) (hR : Rel σ) (hu : 0 ≤ u ∧ u + 5 < (L : Int)) (hL : L ≤ 384) (hcs : cells ≤ 600000 ∧ slots ≤ 7300000) (hst : l.stackTraces = false) {sa : Nat} (hTr : TrW A RX2 "the fit fails" ISE 36 38 sa s) (kk : ∀ (σ' : Mem) (cells' slots' : Nat), Rel σ' → cells' ≤ cells + 1 → slots' ≤ slots + 6 → G p l e room_1 s m [Value.ref b].toArray below meth c 8 D ca ad A cells' slots' Q σ' 1842 (lvB b ad u) []) : G p l e room_1 s m [Value.ref b].toArray below meth c 8 D ca ad A cells slots Q σ 1817 (lvB b ad u) [] := by
  have hj1 : s32 (u + 1) = (((u + 1).toNat : Nat) : Int) := by rw [s32_of (by omega) (by omega)]; omega
  obtain ⟨r, σ1, σ2, h1, h2, hR2⟩ := op_toss hR (s32_ti (xs (u + 1).toNat))
  refine g_aload_n (i := 1) C dL_law_1817 rfl rfl ?_
  refine g_arg C hX hbl hbA rfl rfl hj1 (by clear hj1; omega) dL_law_1818 dL_law_1819 dL_law_1821 dL_law_1822 dL_law_1823 ?_
  refine g_callVm C (c_X11_toss (sa := sa) hst h1 (fun hx h3 => ⟨(hR.fit hx h3).1, (hR.fit hx h3).2.2.2.1, (hR.fit hx h3).2.2.2.2.1⟩)) (trW_blind wd_blind) (fun H locs hw hS U hU hW => ⟨rfl, (wd_now (vs := [.ref (ad 0), .int (iI (xs (u + 1).toNat).toInt)]) C hw hS U hU hW).2, trW_now hTr hS U hU hW⟩) (cwV 1 C.2.2.2.2.1 gLtoss rfl rfl rfl (by decide +kernel) ⟨Nat.le_of_ble_eq_true rfl, Nat.le_of_ble_eq_true rfl⟩) ob_X11 rfl rfl rfl rfl (Nat.le_of_ble_eq_true rfl) dL_law_1824 ⟨Nat.le_trans (Nat.add_le_add_right hcs.1 _) (Nat.le_of_ble_eq_true rfl), Nat.le_trans (Nat.add_le_add_right hcs.2 _) (Nat.le_of_ble_eq_true rfl)⟩ ?_
  refine g_aload_n (i := 2) C dL_law_1827 rfl rfl ?_
  refine g_arg C hX hbl hbA rfl rfl hj1 (by clear hj1; omega) dL_law_1828 dL_law_1829 dL_law_1831 dL_law_1832 dL_law_1833 ?_
  refine g_callVi C (c_X12_toss h2) (cwV 1 C.2.2.2.2.1 (gLift gL_law_X12_toss) rfl rfl rfl (by decide +kernel) ⟨Nat.le_of_ble_eq_true rfl, Nat.le_of_ble_eq_true rfl⟩) ob_X12 rfl rfl rfl rfl (Nat.le_of_ble_eq_true rfl) dL_law_1834 ⟨Nat.le_trans (Nat.add_le_add_right hcs.1 _) (Nat.le_of_ble_eq_true rfl), Nat.le_trans (Nat.add_le_add_right hcs.2 _) (Nat.le_of_ble_eq_true rfl)⟩ ?_
  exact g_icmp_eq (tgt := 1842) C dL_law_1837 (by decide) rfl rfl (fun _ => kk _ _ _ hR2 (Nat.le_refl _) (Nat.add_le_add_left (Nat.le_of_ble_eq_true rfl) _)) (fun z => absurd rfl z)
end Glc3
