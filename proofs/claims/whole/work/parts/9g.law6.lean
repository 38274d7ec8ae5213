/-! the law's cases -/
theorem dL_law_1613 : decode cL_law 1613 = .ok (.aload_n 1, 1) := by decide +kernel
theorem dL_law_1614 : decode cL_law 1614 = .ok (.aload_n 0, 1) := by decide +kernel
theorem dL_law_1615 : decode cL_law 1615 = .ok (.iload_n 3, 1) := by decide +kernel
theorem dL_law_1616 : decode cL_law 1616 = .ok (.iconst 1, 1) := by decide +kernel
theorem dL_law_1617 : decode cL_law 1617 = .ok (.iadd, 1) := by decide +kernel
theorem dL_law_1618 : decode cL_law 1618 = .ok (.iaload, 1) := by decide +kernel
theorem dL_law_1619 : decode cL_law 1619 = .ok (.invokevirtual 158, 3) := by decide +kernel
theorem dL_law_1622 : decode cL_law 1622 = .ok (.aload_n 2, 1) := by decide +kernel
theorem dL_law_1623 : decode cL_law 1623 = .ok (.aload_n 0, 1) := by decide +kernel
theorem dL_law_1624 : decode cL_law 1624 = .ok (.iload_n 3, 1) := by decide +kernel
theorem dL_law_1625 : decode cL_law 1625 = .ok (.iconst 1, 1) := by decide +kernel
theorem dL_law_1626 : decode cL_law 1626 = .ok (.iadd, 1) := by decide +kernel
theorem dL_law_1627 : decode cL_law 1627 = .ok (.iaload, 1) := by decide +kernel
theorem dL_law_1628 : decode cL_law 1628 = .ok (.invokevirtual 161, 3) := by decide +kernel
theorem dL_law_1631 : decode cL_law 1631 = .ok (.lcmp, 1) := by decide +kernel
theorem dL_law_1632 : decode cL_law 1632 = .ok (.ifCond .eq 267, 3) := by decide +kernel
theorem lb_158 : mz_MB RL 158 yX11_fold cX11_fold 2 (some .long) 1 := ⟨mz_tb 838 (by decide +kernel) rfl, mz_tb 40 (by decide +kernel) rfl, mz_tb 841 (by decide +kernel) rfl, by decide, by decide, by decide +kernel⟩
theorem li_X11_fold : Cond.instanceMethod yX11_fold ∈ mz_tbl ∧ Cond.selects RX11 yX11_fold yX11_fold ∈ mz_tbl := ⟨mz_tb 839 (by decide +kernel) rfl, mz_tb 840 (by decide +kernel) rfl⟩
theorem lb_161 : mz_MB RL 161 yX12_fold cX12_fold 15 (some .long) 1 := ⟨mz_tb 1376 (by decide +kernel) rfl, mz_tb 45 (by decide +kernel) rfl, mz_tb 1379 (by decide +kernel) rfl, by decide, by decide, by decide +kernel⟩
theorem li_X12_fold : Cond.instanceMethod yX12_fold ∈ mz_tbl ∧ Cond.selects RX12 yX12_fold yX12_fold ∈ mz_tbl := ⟨mz_tb 1377 (by decide +kernel) rfl, mz_tb 1378 (by decide +kernel) rfl⟩
section
variable {p : Program} {l : Launch} {e : Env} {s : State} {m : MethodId} {below : List Frame} {meth : Method} {c : Code} {H : Heap} {locs : List Loc} {cells slots : Nat} {Q : State → Prop} {ls : Array Slot} {g : mz_G} {b L : Nat} {xs : Nat → Int32} {VB o q k : Nat} {rs : mz_RS} {h : mz_H} {x3 : Int32}
set_option maxHeartbeats 4000000 in
set_option maxRecDepth 100000 in
theorem lc_33 (X : mz_X p g RL cL_law 4 (fun q : Nat => s.heap.size ≤ q) s m #[Value.ref b] c) (hX : va_X b L xs s s.heap) (hbl : b < s.heap.size) (hin : ∀ j : Nat, j < 8 → vp_in (x3 + nI j) L) (I : lw_I g s VB o q (k + 1) rs h H locs cells slots) (hl : mz_L ls 4 [(0, false, va_rf (some b)), (1, false, va_rf (some o)), (2, false, va_rf (some q)), (3, false, .int x3)]) (cont : ∀ rs' h' H' locs' cells' slots', lw_I g s VB o q k rs' h' H' locs' cells' slots' → W p l e room_1 s m #[Value.ref b] below meth c H' locs' cells' slots' Q (F0 m 1899 ls [])) : W p l e room_1 s m #[Value.ref b] below meth c H locs cells slots Q (F0 m 1613 ls []) := by
  have hbA : ¬ (fun q : Nat => s.heap.size ≤ q) b := Nat.not_le.mpr hbl
  obtain ⟨r, h', kk, n, rs', e1, e2, I', z1, z2, z3, z4⟩ := k_fold (q := q) I.1 (xs (x3 + 1).toNatClampNeg)
  refine mz_aload_n X dL_law_1613 rfl (mz_at hl 1 rfl) ?_
  refine mz_aload_n X dL_law_1614 rfl (mz_at hl 0 rfl) ?_
  refine lv_iload_n X.1 X.2.1 dL_law_1615 rfl (mz_at hl 3 rfl) ?_
  refine lv_iconst (v := 1) X.1 X.2.1 dL_law_1616 (by decide) ?_
  refine lv_iadd X.1 X.2.1 dL_law_1617 ?_
  refine va_sld X.1 X.2.1 hX hbl hbA I.2.1.2.2.2 (hin 1 (by decide)) dL_law_1618 ?_
  refine lw_x X I.2.1 I.1.is hl.1.1 [.int (xs (x3 + 1).toNatClampNeg)] (ct_X11_fold l g h (some o) (xs (x3 + 1).toNatClampNeg) r h' kk n e1) lb_158 li_X11_fold rfl ⟨Nat.le_of_ble_eq_true rfl, Nat.le_of_ble_eq_true rfl⟩ (lw_bud I I' z2 z3 z4) dL_law_1619 rfl (fun H1 locs1 J => ?_)
  refine mz_aload_n X dL_law_1622 rfl (mz_at hl 2 rfl) ?_
  refine mz_aload_n X dL_law_1623 rfl (mz_at hl 0 rfl) ?_
  refine lv_iload_n X.1 X.2.1 dL_law_1624 rfl (mz_at hl 3 rfl) ?_
  refine lv_iconst (v := 1) X.1 X.2.1 dL_law_1625 (by decide) ?_
  refine lv_iadd X.1 X.2.1 dL_law_1626 ?_
  refine va_sld X.1 X.2.1 hX hbl hbA J.2.2.2 (hin 1 (by decide)) dL_law_1627 ?_
  refine lw_m X J hl.1.1 [.int (xs (x3 + 1).toNatClampNeg)] (ct_X12_fold l g (mz_RH q h'.2 rs) (some q) (xs (x3 + 1).toNatClampNeg) r (mz_RH q h'.2 rs') 0 0 e2) lb_161 li_X12_fold rfl ⟨Nat.le_of_ble_eq_true rfl, Nat.le_of_ble_eq_true rfl⟩ (lw_bud I I' z2 z3 z4) dL_law_1628 rfl (fun H2 locs2 J2 => ?_)
  refine W.lcmp X.1 X.2.1 dL_law_1631 ?_
  refine lv_if_eq (tgt := 1899) X.1 X.2.1 dL_law_1632 (by decide) (fun _ => ?_) (fun z => absurd ((lg_cmp_eq r r).mpr rfl) z)
  exact cont _ _ _ _ _ _ (lw_next I I' z2 z3 z4 J2)
end
theorem dL_law_1637 : decode cL_law 1637 = .ok (.aload_n 1, 1) := by decide +kernel
theorem dL_law_1638 : decode cL_law 1638 = .ok (.aload_n 0, 1) := by decide +kernel
theorem dL_law_1639 : decode cL_law 1639 = .ok (.iload_n 3, 1) := by decide +kernel
theorem dL_law_1640 : decode cL_law 1640 = .ok (.iconst 1, 1) := by decide +kernel
theorem dL_law_1641 : decode cL_law 1641 = .ok (.iadd, 1) := by decide +kernel
theorem dL_law_1642 : decode cL_law 1642 = .ok (.iaload, 1) := by decide +kernel
theorem dL_law_1643 : decode cL_law 1643 = .ok (.aload_n 0, 1) := by decide +kernel
theorem dL_law_1644 : decode cL_law 1644 = .ok (.iload_n 3, 1) := by decide +kernel
theorem dL_law_1645 : decode cL_law 1645 = .ok (.iconst 2, 1) := by decide +kernel
theorem dL_law_1646 : decode cL_law 1646 = .ok (.iadd, 1) := by decide +kernel
theorem dL_law_1647 : decode cL_law 1647 = .ok (.iaload, 1) := by decide +kernel
theorem dL_law_1648 : decode cL_law 1648 = .ok (.aload_n 0, 1) := by decide +kernel
theorem dL_law_1649 : decode cL_law 1649 = .ok (.iload_n 3, 1) := by decide +kernel
theorem dL_law_1650 : decode cL_law 1650 = .ok (.iconst 3, 1) := by decide +kernel
theorem dL_law_1651 : decode cL_law 1651 = .ok (.iadd, 1) := by decide +kernel
theorem dL_law_1652 : decode cL_law 1652 = .ok (.iaload, 1) := by decide +kernel
theorem dL_law_1653 : decode cL_law 1653 = .ok (.i2l, 1) := by decide +kernel
theorem dL_law_1654 : decode cL_law 1654 = .ok (.bipush 32, 2) := by decide +kernel
theorem dL_law_1656 : decode cL_law 1656 = .ok (.lshl, 1) := by decide +kernel
theorem dL_law_1657 : decode cL_law 1657 = .ok (.aload_n 0, 1) := by decide +kernel
theorem dL_law_1658 : decode cL_law 1658 = .ok (.iload_n 3, 1) := by decide +kernel
theorem dL_law_1659 : decode cL_law 1659 = .ok (.iconst 4, 1) := by decide +kernel
theorem dL_law_1660 : decode cL_law 1660 = .ok (.iadd, 1) := by decide +kernel
theorem dL_law_1661 : decode cL_law 1661 = .ok (.iaload, 1) := by decide +kernel
theorem dL_law_1662 : decode cL_law 1662 = .ok (.i2l, 1) := by decide +kernel
theorem dL_law_1663 : decode cL_law 1663 = .ok (.ldc2_w 107, 3) := by decide +kernel
theorem dL_law_1666 : decode cL_law 1666 = .ok (.land, 1) := by decide +kernel
theorem dL_law_1667 : decode cL_law 1667 = .ok (.lor, 1) := by decide +kernel
theorem dL_law_1668 : decode cL_law 1668 = .ok (.invokevirtual 162, 3) := by decide +kernel
theorem dL_law_1671 : decode cL_law 1671 = .ok (.aload_n 2, 1) := by decide +kernel
theorem dL_law_1672 : decode cL_law 1672 = .ok (.aload_n 0, 1) := by decide +kernel
theorem dL_law_1673 : decode cL_law 1673 = .ok (.iload_n 3, 1) := by decide +kernel
theorem dL_law_1674 : decode cL_law 1674 = .ok (.iconst 1, 1) := by decide +kernel
theorem dL_law_1675 : decode cL_law 1675 = .ok (.iadd, 1) := by decide +kernel
theorem dL_law_1676 : decode cL_law 1676 = .ok (.iaload, 1) := by decide +kernel
theorem dL_law_1677 : decode cL_law 1677 = .ok (.aload_n 0, 1) := by decide +kernel
theorem dL_law_1678 : decode cL_law 1678 = .ok (.iload_n 3, 1) := by decide +kernel
theorem dL_law_1679 : decode cL_law 1679 = .ok (.iconst 2, 1) := by decide +kernel
theorem dL_law_1680 : decode cL_law 1680 = .ok (.iadd, 1) := by decide +kernel
theorem dL_law_1681 : decode cL_law 1681 = .ok (.iaload, 1) := by decide +kernel
theorem dL_law_1682 : decode cL_law 1682 = .ok (.aload_n 0, 1) := by decide +kernel
theorem dL_law_1683 : decode cL_law 1683 = .ok (.iload_n 3, 1) := by decide +kernel
theorem dL_law_1684 : decode cL_law 1684 = .ok (.iconst 3, 1) := by decide +kernel
theorem dL_law_1685 : decode cL_law 1685 = .ok (.iadd, 1) := by decide +kernel
theorem dL_law_1686 : decode cL_law 1686 = .ok (.iaload, 1) := by decide +kernel
theorem dL_law_1687 : decode cL_law 1687 = .ok (.i2l, 1) := by decide +kernel
theorem dL_law_1688 : decode cL_law 1688 = .ok (.bipush 32, 2) := by decide +kernel
theorem dL_law_1690 : decode cL_law 1690 = .ok (.lshl, 1) := by decide +kernel
theorem dL_law_1691 : decode cL_law 1691 = .ok (.aload_n 0, 1) := by decide +kernel
theorem dL_law_1692 : decode cL_law 1692 = .ok (.iload_n 3, 1) := by decide +kernel
theorem dL_law_1693 : decode cL_law 1693 = .ok (.iconst 4, 1) := by decide +kernel
theorem dL_law_1694 : decode cL_law 1694 = .ok (.iadd, 1) := by decide +kernel
theorem dL_law_1695 : decode cL_law 1695 = .ok (.iaload, 1) := by decide +kernel
theorem dL_law_1696 : decode cL_law 1696 = .ok (.i2l, 1) := by decide +kernel
theorem dL_law_1697 : decode cL_law 1697 = .ok (.ldc2_w 107, 3) := by decide +kernel
theorem dL_law_1700 : decode cL_law 1700 = .ok (.land, 1) := by decide +kernel
theorem dL_law_1701 : decode cL_law 1701 = .ok (.lor, 1) := by decide +kernel
theorem dL_law_1702 : decode cL_law 1702 = .ok (.invokevirtual 166, 3) := by decide +kernel
theorem dL_law_1705 : decode cL_law 1705 = .ok (.lcmp, 1) := by decide +kernel
theorem dL_law_1706 : decode cL_law 1706 = .ok (.ifCond .eq 193, 3) := by decide +kernel
theorem lb_162 : mz_MB RL 162 yX11_at cX11_at 6 (some .long) 3 := ⟨mz_tb 867 (by decide +kernel) rfl, mz_tb 40 (by decide +kernel) rfl, mz_tb 870 (by decide +kernel) rfl, by decide, by decide, by decide +kernel⟩
theorem li_X11_at : Cond.instanceMethod yX11_at ∈ mz_tbl ∧ Cond.selects RX11 yX11_at yX11_at ∈ mz_tbl := ⟨mz_tb 868 (by decide +kernel) rfl, mz_tb 869 (by decide +kernel) rfl⟩
theorem lb_166 : mz_MB RL 166 yX12_at cX12_at 21 (some .long) 3 := ⟨mz_tb 1387 (by decide +kernel) rfl, mz_tb 45 (by decide +kernel) rfl, mz_tb 1390 (by decide +kernel) rfl, by decide, by decide, by decide +kernel⟩
theorem li_X12_at : Cond.instanceMethod yX12_at ∈ mz_tbl ∧ Cond.selects RX12 yX12_at yX12_at ∈ mz_tbl := ⟨mz_tb 1388 (by decide +kernel) rfl, mz_tb 1389 (by decide +kernel) rfl⟩
section
variable {p : Program} {l : Launch} {e : Env} {s : State} {m : MethodId} {below : List Frame} {meth : Method} {c : Code} {H : Heap} {locs : List Loc} {cells slots : Nat} {Q : State → Prop} {ls : Array Slot} {g : mz_G} {b L : Nat} {xs : Nat → Int32} {VB o q k : Nat} {rs : mz_RS} {h : mz_H} {x3 : Int32}
set_option maxHeartbeats 4000000 in
set_option maxRecDepth 100000 in
theorem lc_34 (X : mz_X p g RL cL_law 4 (fun q : Nat => s.heap.size ≤ q) s m #[Value.ref b] c) (hX : va_X b L xs s s.heap) (hbl : b < s.heap.size) (hin : ∀ j : Nat, j < 8 → vp_in (x3 + nI j) L) (I : lw_I g s VB o q (k + 1) rs h H locs cells slots) (hl : mz_L ls 4 [(0, false, va_rf (some b)), (1, false, va_rf (some o)), (2, false, va_rf (some q)), (3, false, .int x3)]) (cont : ∀ rs' h' H' locs' cells' slots', lw_I g s VB o q k rs' h' H' locs' cells' slots' → W p l e room_1 s m #[Value.ref b] below meth c H' locs' cells' slots' Q (F0 m 1899 ls [])) : W p l e room_1 s m #[Value.ref b] below meth c H locs cells slots Q (F0 m 1637 ls []) := by
  have hbA : ¬ (fun q : Nat => s.heap.size ≤ q) b := Nat.not_le.mpr hbl
  obtain ⟨r, h', kk, n, rs', e1, e2, I', z1, z2, z3, z4⟩ := k_at (q := q) I.1 (xs (x3 + 1).toNatClampNeg) (xs (x3 + 2).toNatClampNeg) ((mz_shl (((xs (x3 + 3).toNatClampNeg) : Int32).toInt64) 32) ||| ((((xs (x3 + 4).toNatClampNeg) : Int32).toInt64) &&& 4294967295))
  refine mz_aload_n X dL_law_1637 rfl (mz_at hl 1 rfl) ?_
  refine mz_aload_n X dL_law_1638 rfl (mz_at hl 0 rfl) ?_
  refine lv_iload_n X.1 X.2.1 dL_law_1639 rfl (mz_at hl 3 rfl) ?_
  refine lv_iconst (v := 1) X.1 X.2.1 dL_law_1640 (by decide) ?_
  refine lv_iadd X.1 X.2.1 dL_law_1641 ?_
  refine va_sld X.1 X.2.1 hX hbl hbA I.2.1.2.2.2 (hin 1 (by decide)) dL_law_1642 ?_
  refine mz_aload_n X dL_law_1643 rfl (mz_at hl 0 rfl) ?_
  refine lv_iload_n X.1 X.2.1 dL_law_1644 rfl (mz_at hl 3 rfl) ?_
  refine lv_iconst (v := 2) X.1 X.2.1 dL_law_1645 (by decide) ?_
  refine lv_iadd X.1 X.2.1 dL_law_1646 ?_
  refine va_sld X.1 X.2.1 hX hbl hbA I.2.1.2.2.2 (hin 2 (by decide)) dL_law_1647 ?_
  refine mz_aload_n X dL_law_1648 rfl (mz_at hl 0 rfl) ?_
  refine lv_iload_n X.1 X.2.1 dL_law_1649 rfl (mz_at hl 3 rfl) ?_
  refine lv_iconst (v := 3) X.1 X.2.1 dL_law_1650 (by decide) ?_
  refine lv_iadd X.1 X.2.1 dL_law_1651 ?_
  refine va_sld X.1 X.2.1 hX hbl hbA I.2.1.2.2.2 (hin 3 (by decide)) dL_law_1652 ?_
  refine lv_i2l (v := (((xs (x3 + 3).toNatClampNeg) : Int32).toInt64)) X.1 X.2.1 dL_law_1653 rfl ?_
  refine lv_bipush (v := 32) X.1 X.2.1 dL_law_1654 (by decide) ?_
  refine lv_lshl (v := (mz_shl (((xs (x3 + 3).toNatClampNeg) : Int32).toInt64) 32)) X.1 X.2.1 dL_law_1656 rfl ?_
  refine mz_aload_n X dL_law_1657 rfl (mz_at hl 0 rfl) ?_
  refine lv_iload_n X.1 X.2.1 dL_law_1658 rfl (mz_at hl 3 rfl) ?_
  refine lv_iconst (v := 4) X.1 X.2.1 dL_law_1659 (by decide) ?_
  refine lv_iadd X.1 X.2.1 dL_law_1660 ?_
  refine va_sld X.1 X.2.1 hX hbl hbA I.2.1.2.2.2 (hin 4 (by decide)) dL_law_1661 ?_
  refine lv_i2l (v := (((xs (x3 + 4).toNatClampNeg) : Int32).toInt64)) X.1 X.2.1 dL_law_1662 rfl ?_
  refine mz_ldc2 (v := 4294967295) X (mz_tb 1422 (by decide +kernel) rfl) dL_law_1663 ?_
  refine lv_land X.1 X.2.1 dL_law_1666 ?_
  refine lv_lor X.1 X.2.1 dL_law_1667 ?_
  refine lw_x X I.2.1 I.1.is hl.1.1 [.int (xs (x3 + 1).toNatClampNeg), .int (xs (x3 + 2).toNatClampNeg), .long ((mz_shl (((xs (x3 + 3).toNatClampNeg) : Int32).toInt64) 32) ||| ((((xs (x3 + 4).toNatClampNeg) : Int32).toInt64) &&& 4294967295))] (ct_X11_at l g h (some o) (xs (x3 + 1).toNatClampNeg) (xs (x3 + 2).toNatClampNeg) ((mz_shl (((xs (x3 + 3).toNatClampNeg) : Int32).toInt64) 32) ||| ((((xs (x3 + 4).toNatClampNeg) : Int32).toInt64) &&& 4294967295)) r h' kk n e1) lb_162 li_X11_at rfl ⟨Nat.le_of_ble_eq_true rfl, Nat.le_of_ble_eq_true rfl⟩ (lw_bud I I' z2 z3 z4) dL_law_1668 rfl (fun H1 locs1 J => ?_)
  refine mz_aload_n X dL_law_1671 rfl (mz_at hl 2 rfl) ?_
  refine mz_aload_n X dL_law_1672 rfl (mz_at hl 0 rfl) ?_
  refine lv_iload_n X.1 X.2.1 dL_law_1673 rfl (mz_at hl 3 rfl) ?_
  refine lv_iconst (v := 1) X.1 X.2.1 dL_law_1674 (by decide) ?_
  refine lv_iadd X.1 X.2.1 dL_law_1675 ?_
  refine va_sld X.1 X.2.1 hX hbl hbA J.2.2.2 (hin 1 (by decide)) dL_law_1676 ?_
  refine mz_aload_n X dL_law_1677 rfl (mz_at hl 0 rfl) ?_
  refine lv_iload_n X.1 X.2.1 dL_law_1678 rfl (mz_at hl 3 rfl) ?_
  refine lv_iconst (v := 2) X.1 X.2.1 dL_law_1679 (by decide) ?_
  refine lv_iadd X.1 X.2.1 dL_law_1680 ?_
  refine va_sld X.1 X.2.1 hX hbl hbA J.2.2.2 (hin 2 (by decide)) dL_law_1681 ?_
  refine mz_aload_n X dL_law_1682 rfl (mz_at hl 0 rfl) ?_
  refine lv_iload_n X.1 X.2.1 dL_law_1683 rfl (mz_at hl 3 rfl) ?_
  refine lv_iconst (v := 3) X.1 X.2.1 dL_law_1684 (by decide) ?_
  refine lv_iadd X.1 X.2.1 dL_law_1685 ?_
  refine va_sld X.1 X.2.1 hX hbl hbA J.2.2.2 (hin 3 (by decide)) dL_law_1686 ?_
  refine lv_i2l (v := (((xs (x3 + 3).toNatClampNeg) : Int32).toInt64)) X.1 X.2.1 dL_law_1687 rfl ?_
  refine lv_bipush (v := 32) X.1 X.2.1 dL_law_1688 (by decide) ?_
  refine lv_lshl (v := (mz_shl (((xs (x3 + 3).toNatClampNeg) : Int32).toInt64) 32)) X.1 X.2.1 dL_law_1690 rfl ?_
  refine mz_aload_n X dL_law_1691 rfl (mz_at hl 0 rfl) ?_
  refine lv_iload_n X.1 X.2.1 dL_law_1692 rfl (mz_at hl 3 rfl) ?_
  refine lv_iconst (v := 4) X.1 X.2.1 dL_law_1693 (by decide) ?_
  refine lv_iadd X.1 X.2.1 dL_law_1694 ?_
  refine va_sld X.1 X.2.1 hX hbl hbA J.2.2.2 (hin 4 (by decide)) dL_law_1695 ?_
  refine lv_i2l (v := (((xs (x3 + 4).toNatClampNeg) : Int32).toInt64)) X.1 X.2.1 dL_law_1696 rfl ?_
  refine mz_ldc2 (v := 4294967295) X (mz_tb 1422 (by decide +kernel) rfl) dL_law_1697 ?_
  refine lv_land X.1 X.2.1 dL_law_1700 ?_
  refine lv_lor X.1 X.2.1 dL_law_1701 ?_
  refine lw_m X J hl.1.1 [.int (xs (x3 + 1).toNatClampNeg), .int (xs (x3 + 2).toNatClampNeg), .long ((mz_shl (((xs (x3 + 3).toNatClampNeg) : Int32).toInt64) 32) ||| ((((xs (x3 + 4).toNatClampNeg) : Int32).toInt64) &&& 4294967295))] (ct_X12_at l g (mz_RH q h'.2 rs) (some q) (xs (x3 + 1).toNatClampNeg) (xs (x3 + 2).toNatClampNeg) ((mz_shl (((xs (x3 + 3).toNatClampNeg) : Int32).toInt64) 32) ||| ((((xs (x3 + 4).toNatClampNeg) : Int32).toInt64) &&& 4294967295)) r (mz_RH q h'.2 rs') 0 0 e2) lb_166 li_X12_at rfl ⟨Nat.le_of_ble_eq_true rfl, Nat.le_of_ble_eq_true rfl⟩ (lw_bud I I' z2 z3 z4) dL_law_1702 rfl (fun H2 locs2 J2 => ?_)
  refine W.lcmp X.1 X.2.1 dL_law_1705 ?_
  refine lv_if_eq (tgt := 1899) X.1 X.2.1 dL_law_1706 (by decide) (fun _ => ?_) (fun z => absurd ((lg_cmp_eq r r).mpr rfl) z)
  exact cont _ _ _ _ _ _ (lw_next I I' z2 z3 z4 J2)
end
theorem dL_law_1711 : decode cL_law 1711 = .ok (.aload_n 1, 1) := by decide +kernel
theorem dL_law_1712 : decode cL_law 1712 = .ok (.aload_n 0, 1) := by decide +kernel
theorem dL_law_1713 : decode cL_law 1713 = .ok (.iload_n 3, 1) := by decide +kernel
theorem dL_law_1714 : decode cL_law 1714 = .ok (.iconst 1, 1) := by decide +kernel
theorem dL_law_1715 : decode cL_law 1715 = .ok (.iadd, 1) := by decide +kernel
theorem dL_law_1716 : decode cL_law 1716 = .ok (.iaload, 1) := by decide +kernel
theorem dL_law_1717 : decode cL_law 1717 = .ok (.aload_n 0, 1) := by decide +kernel
theorem dL_law_1718 : decode cL_law 1718 = .ok (.iload_n 3, 1) := by decide +kernel
theorem dL_law_1719 : decode cL_law 1719 = .ok (.iconst 2, 1) := by decide +kernel
theorem dL_law_1720 : decode cL_law 1720 = .ok (.iadd, 1) := by decide +kernel
theorem dL_law_1721 : decode cL_law 1721 = .ok (.iaload, 1) := by decide +kernel
theorem dL_law_1722 : decode cL_law 1722 = .ok (.aload_n 0, 1) := by decide +kernel
theorem dL_law_1723 : decode cL_law 1723 = .ok (.iload_n 3, 1) := by decide +kernel
theorem dL_law_1724 : decode cL_law 1724 = .ok (.iconst 3, 1) := by decide +kernel
theorem dL_law_1725 : decode cL_law 1725 = .ok (.iadd, 1) := by decide +kernel
theorem dL_law_1726 : decode cL_law 1726 = .ok (.iaload, 1) := by decide +kernel
theorem dL_law_1727 : decode cL_law 1727 = .ok (.invokevirtual 167, 3) := by decide +kernel
theorem dL_law_1730 : decode cL_law 1730 = .ok (.aload_n 2, 1) := by decide +kernel
theorem dL_law_1731 : decode cL_law 1731 = .ok (.aload_n 0, 1) := by decide +kernel
theorem dL_law_1732 : decode cL_law 1732 = .ok (.iload_n 3, 1) := by decide +kernel
theorem dL_law_1733 : decode cL_law 1733 = .ok (.iconst 1, 1) := by decide +kernel
theorem dL_law_1734 : decode cL_law 1734 = .ok (.iadd, 1) := by decide +kernel
theorem dL_law_1735 : decode cL_law 1735 = .ok (.iaload, 1) := by decide +kernel
theorem dL_law_1736 : decode cL_law 1736 = .ok (.aload_n 0, 1) := by decide +kernel
theorem dL_law_1737 : decode cL_law 1737 = .ok (.iload_n 3, 1) := by decide +kernel
theorem dL_law_1738 : decode cL_law 1738 = .ok (.iconst 2, 1) := by decide +kernel
theorem dL_law_1739 : decode cL_law 1739 = .ok (.iadd, 1) := by decide +kernel
theorem dL_law_1740 : decode cL_law 1740 = .ok (.iaload, 1) := by decide +kernel
theorem dL_law_1741 : decode cL_law 1741 = .ok (.aload_n 0, 1) := by decide +kernel
theorem dL_law_1742 : decode cL_law 1742 = .ok (.iload_n 3, 1) := by decide +kernel
theorem dL_law_1743 : decode cL_law 1743 = .ok (.iconst 3, 1) := by decide +kernel
theorem dL_law_1744 : decode cL_law 1744 = .ok (.iadd, 1) := by decide +kernel
theorem dL_law_1745 : decode cL_law 1745 = .ok (.iaload, 1) := by decide +kernel
theorem dL_law_1746 : decode cL_law 1746 = .ok (.invokevirtual 170, 3) := by decide +kernel
theorem dL_law_1749 : decode cL_law 1749 = .ok (.if_icmp .eq 150, 3) := by decide +kernel
theorem lb_167 : mz_MB RL 167 yX11_list cX11_list 4 (some .int) 3 := ⟨mz_tb 900 (by decide +kernel) rfl, mz_tb 40 (by decide +kernel) rfl, mz_tb 903 (by decide +kernel) rfl, by decide, by decide, by decide +kernel⟩
theorem li_X11_list : Cond.instanceMethod yX11_list ∈ mz_tbl ∧ Cond.selects RX11 yX11_list yX11_list ∈ mz_tbl := ⟨mz_tb 901 (by decide +kernel) rfl, mz_tb 902 (by decide +kernel) rfl⟩
theorem lb_170 : mz_MB RL 170 yX12_list cX12_list 5 (some .int) 3 := ⟨mz_tb 1394 (by decide +kernel) rfl, mz_tb 45 (by decide +kernel) rfl, mz_tb 1397 (by decide +kernel) rfl, by decide, by decide, by decide +kernel⟩
theorem li_X12_list : Cond.instanceMethod yX12_list ∈ mz_tbl ∧ Cond.selects RX12 yX12_list yX12_list ∈ mz_tbl := ⟨mz_tb 1395 (by decide +kernel) rfl, mz_tb 1396 (by decide +kernel) rfl⟩
section
variable {p : Program} {l : Launch} {e : Env} {s : State} {m : MethodId} {below : List Frame} {meth : Method} {c : Code} {H : Heap} {locs : List Loc} {cells slots : Nat} {Q : State → Prop} {ls : Array Slot} {g : mz_G} {b L : Nat} {xs : Nat → Int32} {VB o q k : Nat} {rs : mz_RS} {h : mz_H} {x3 : Int32}
set_option maxHeartbeats 4000000 in
set_option maxRecDepth 100000 in
theorem lc_35 (X : mz_X p g RL cL_law 4 (fun q : Nat => s.heap.size ≤ q) s m #[Value.ref b] c) (hX : va_X b L xs s s.heap) (hbl : b < s.heap.size) (hin : ∀ j : Nat, j < 8 → vp_in (x3 + nI j) L) (I : lw_I g s VB o q (k + 1) rs h H locs cells slots) (hl : mz_L ls 4 [(0, false, va_rf (some b)), (1, false, va_rf (some o)), (2, false, va_rf (some q)), (3, false, .int x3)]) (cont : ∀ rs' h' H' locs' cells' slots', lw_I g s VB o q k rs' h' H' locs' cells' slots' → W p l e room_1 s m #[Value.ref b] below meth c H' locs' cells' slots' Q (F0 m 1899 ls [])) : W p l e room_1 s m #[Value.ref b] below meth c H locs cells slots Q (F0 m 1711 ls []) := by
  have hbA : ¬ (fun q : Nat => s.heap.size ≤ q) b := Nat.not_le.mpr hbl
  obtain ⟨r, h', kk, n, rs', e1, e2, I', z1, z2, z3, z4⟩ := k_list (q := q) I.1 (xs (x3 + 1).toNatClampNeg) (xs (x3 + 2).toNatClampNeg) (xs (x3 + 3).toNatClampNeg)
  refine mz_aload_n X dL_law_1711 rfl (mz_at hl 1 rfl) ?_
  refine mz_aload_n X dL_law_1712 rfl (mz_at hl 0 rfl) ?_
  refine lv_iload_n X.1 X.2.1 dL_law_1713 rfl (mz_at hl 3 rfl) ?_
  refine lv_iconst (v := 1) X.1 X.2.1 dL_law_1714 (by decide) ?_
  refine lv_iadd X.1 X.2.1 dL_law_1715 ?_
  refine va_sld X.1 X.2.1 hX hbl hbA I.2.1.2.2.2 (hin 1 (by decide)) dL_law_1716 ?_
  refine mz_aload_n X dL_law_1717 rfl (mz_at hl 0 rfl) ?_
  refine lv_iload_n X.1 X.2.1 dL_law_1718 rfl (mz_at hl 3 rfl) ?_
  refine lv_iconst (v := 2) X.1 X.2.1 dL_law_1719 (by decide) ?_
  refine lv_iadd X.1 X.2.1 dL_law_1720 ?_
  refine va_sld X.1 X.2.1 hX hbl hbA I.2.1.2.2.2 (hin 2 (by decide)) dL_law_1721 ?_
  refine mz_aload_n X dL_law_1722 rfl (mz_at hl 0 rfl) ?_
  refine lv_iload_n X.1 X.2.1 dL_law_1723 rfl (mz_at hl 3 rfl) ?_
  refine lv_iconst (v := 3) X.1 X.2.1 dL_law_1724 (by decide) ?_
  refine lv_iadd X.1 X.2.1 dL_law_1725 ?_
  refine va_sld X.1 X.2.1 hX hbl hbA I.2.1.2.2.2 (hin 3 (by decide)) dL_law_1726 ?_
  refine lw_x X I.2.1 I.1.is hl.1.1 [.int (xs (x3 + 1).toNatClampNeg), .int (xs (x3 + 2).toNatClampNeg), .int (xs (x3 + 3).toNatClampNeg)] (ct_X11_list l g h (some o) (xs (x3 + 1).toNatClampNeg) (xs (x3 + 2).toNatClampNeg) (xs (x3 + 3).toNatClampNeg) r h' kk n e1) lb_167 li_X11_list rfl ⟨Nat.le_of_ble_eq_true rfl, Nat.le_of_ble_eq_true rfl⟩ (lw_bud I I' z2 z3 z4) dL_law_1727 rfl (fun H1 locs1 J => ?_)
  refine mz_aload_n X dL_law_1730 rfl (mz_at hl 2 rfl) ?_
  refine mz_aload_n X dL_law_1731 rfl (mz_at hl 0 rfl) ?_
  refine lv_iload_n X.1 X.2.1 dL_law_1732 rfl (mz_at hl 3 rfl) ?_
  refine lv_iconst (v := 1) X.1 X.2.1 dL_law_1733 (by decide) ?_
  refine lv_iadd X.1 X.2.1 dL_law_1734 ?_
  refine va_sld X.1 X.2.1 hX hbl hbA J.2.2.2 (hin 1 (by decide)) dL_law_1735 ?_
  refine mz_aload_n X dL_law_1736 rfl (mz_at hl 0 rfl) ?_
  refine lv_iload_n X.1 X.2.1 dL_law_1737 rfl (mz_at hl 3 rfl) ?_
  refine lv_iconst (v := 2) X.1 X.2.1 dL_law_1738 (by decide) ?_
  refine lv_iadd X.1 X.2.1 dL_law_1739 ?_
  refine va_sld X.1 X.2.1 hX hbl hbA J.2.2.2 (hin 2 (by decide)) dL_law_1740 ?_
  refine mz_aload_n X dL_law_1741 rfl (mz_at hl 0 rfl) ?_
  refine lv_iload_n X.1 X.2.1 dL_law_1742 rfl (mz_at hl 3 rfl) ?_
  refine lv_iconst (v := 3) X.1 X.2.1 dL_law_1743 (by decide) ?_
  refine lv_iadd X.1 X.2.1 dL_law_1744 ?_
  refine va_sld X.1 X.2.1 hX hbl hbA J.2.2.2 (hin 3 (by decide)) dL_law_1745 ?_
  refine lw_m X J hl.1.1 [.int (xs (x3 + 1).toNatClampNeg), .int (xs (x3 + 2).toNatClampNeg), .int (xs (x3 + 3).toNatClampNeg)] (ct_X12_list l g (mz_RH q h'.2 rs) (some q) (xs (x3 + 1).toNatClampNeg) (xs (x3 + 2).toNatClampNeg) (xs (x3 + 3).toNatClampNeg) r (mz_RH q h'.2 rs') 0 0 e2) lb_170 li_X12_list rfl ⟨Nat.le_of_ble_eq_true rfl, Nat.le_of_ble_eq_true rfl⟩ (lw_bud I I' z2 z3 z4) dL_law_1746 rfl (fun H2 locs2 J2 => ?_)
  refine lv_icmp_eq (tgt := 1899) X.1 X.2.1 dL_law_1749 (by decide) (fun _ => ?_) (fun z => absurd rfl z)
  exact cont _ _ _ _ _ _ (lw_next I I' z2 z3 z4 J2)
end
theorem dL_law_1754 : decode cL_law 1754 = .ok (.aload_n 1, 1) := by decide +kernel
theorem dL_law_1755 : decode cL_law 1755 = .ok (.aload_n 0, 1) := by decide +kernel
theorem dL_law_1756 : decode cL_law 1756 = .ok (.iload_n 3, 1) := by decide +kernel
theorem dL_law_1757 : decode cL_law 1757 = .ok (.iconst 1, 1) := by decide +kernel
theorem dL_law_1758 : decode cL_law 1758 = .ok (.iadd, 1) := by decide +kernel
theorem dL_law_1759 : decode cL_law 1759 = .ok (.iaload, 1) := by decide +kernel
theorem dL_law_1760 : decode cL_law 1760 = .ok (.aload_n 0, 1) := by decide +kernel
theorem dL_law_1761 : decode cL_law 1761 = .ok (.iload_n 3, 1) := by decide +kernel
theorem dL_law_1762 : decode cL_law 1762 = .ok (.iconst 2, 1) := by decide +kernel
theorem dL_law_1763 : decode cL_law 1763 = .ok (.iadd, 1) := by decide +kernel
theorem dL_law_1764 : decode cL_law 1764 = .ok (.iaload, 1) := by decide +kernel
theorem dL_law_1765 : decode cL_law 1765 = .ok (.aload_n 0, 1) := by decide +kernel
theorem dL_law_1766 : decode cL_law 1766 = .ok (.iload_n 3, 1) := by decide +kernel
theorem dL_law_1767 : decode cL_law 1767 = .ok (.iconst 3, 1) := by decide +kernel
theorem dL_law_1768 : decode cL_law 1768 = .ok (.iadd, 1) := by decide +kernel
theorem dL_law_1769 : decode cL_law 1769 = .ok (.iaload, 1) := by decide +kernel
theorem dL_law_1770 : decode cL_law 1770 = .ok (.invokevirtual 171, 3) := by decide +kernel
theorem dL_law_1773 : decode cL_law 1773 = .ok (.aload_n 2, 1) := by decide +kernel
theorem dL_law_1774 : decode cL_law 1774 = .ok (.aload_n 0, 1) := by decide +kernel
theorem dL_law_1775 : decode cL_law 1775 = .ok (.iload_n 3, 1) := by decide +kernel
theorem dL_law_1776 : decode cL_law 1776 = .ok (.iconst 1, 1) := by decide +kernel
theorem dL_law_1777 : decode cL_law 1777 = .ok (.iadd, 1) := by decide +kernel
theorem dL_law_1778 : decode cL_law 1778 = .ok (.iaload, 1) := by decide +kernel
theorem dL_law_1779 : decode cL_law 1779 = .ok (.aload_n 0, 1) := by decide +kernel
theorem dL_law_1780 : decode cL_law 1780 = .ok (.iload_n 3, 1) := by decide +kernel
theorem dL_law_1781 : decode cL_law 1781 = .ok (.iconst 2, 1) := by decide +kernel
theorem dL_law_1782 : decode cL_law 1782 = .ok (.iadd, 1) := by decide +kernel
theorem dL_law_1783 : decode cL_law 1783 = .ok (.iaload, 1) := by decide +kernel
theorem dL_law_1784 : decode cL_law 1784 = .ok (.aload_n 0, 1) := by decide +kernel
theorem dL_law_1785 : decode cL_law 1785 = .ok (.iload_n 3, 1) := by decide +kernel
theorem dL_law_1786 : decode cL_law 1786 = .ok (.iconst 3, 1) := by decide +kernel
theorem dL_law_1787 : decode cL_law 1787 = .ok (.iadd, 1) := by decide +kernel
theorem dL_law_1788 : decode cL_law 1788 = .ok (.iaload, 1) := by decide +kernel
theorem dL_law_1789 : decode cL_law 1789 = .ok (.invokevirtual 174, 3) := by decide +kernel
theorem dL_law_1792 : decode cL_law 1792 = .ok (.if_icmp .eq 107, 3) := by decide +kernel
theorem lb_171 : mz_MB RL 171 yX11_stand cX11_stand 6 (some .int) 3 := ⟨mz_tb 924 (by decide +kernel) rfl, mz_tb 40 (by decide +kernel) rfl, mz_tb 927 (by decide +kernel) rfl, by decide, by decide, by decide +kernel⟩
theorem li_X11_stand : Cond.instanceMethod yX11_stand ∈ mz_tbl ∧ Cond.selects RX11 yX11_stand yX11_stand ∈ mz_tbl := ⟨mz_tb 925 (by decide +kernel) rfl, mz_tb 926 (by decide +kernel) rfl⟩
theorem lb_174 : mz_MB RL 174 yX12_stand cX12_stand 4 (some .int) 3 := ⟨mz_tb 1398 (by decide +kernel) rfl, mz_tb 45 (by decide +kernel) rfl, mz_tb 1401 (by decide +kernel) rfl, by decide, by decide, by decide +kernel⟩
theorem li_X12_stand : Cond.instanceMethod yX12_stand ∈ mz_tbl ∧ Cond.selects RX12 yX12_stand yX12_stand ∈ mz_tbl := ⟨mz_tb 1399 (by decide +kernel) rfl, mz_tb 1400 (by decide +kernel) rfl⟩
section
variable {p : Program} {l : Launch} {e : Env} {s : State} {m : MethodId} {below : List Frame} {meth : Method} {c : Code} {H : Heap} {locs : List Loc} {cells slots : Nat} {Q : State → Prop} {ls : Array Slot} {g : mz_G} {b L : Nat} {xs : Nat → Int32} {VB o q k : Nat} {rs : mz_RS} {h : mz_H} {x3 : Int32}
set_option maxHeartbeats 4000000 in
set_option maxRecDepth 100000 in
theorem lc_36 (X : mz_X p g RL cL_law 4 (fun q : Nat => s.heap.size ≤ q) s m #[Value.ref b] c) (hX : va_X b L xs s s.heap) (hbl : b < s.heap.size) (hin : ∀ j : Nat, j < 8 → vp_in (x3 + nI j) L) (I : lw_I g s VB o q (k + 1) rs h H locs cells slots) (hl : mz_L ls 4 [(0, false, va_rf (some b)), (1, false, va_rf (some o)), (2, false, va_rf (some q)), (3, false, .int x3)]) (cont : ∀ rs' h' H' locs' cells' slots', lw_I g s VB o q k rs' h' H' locs' cells' slots' → W p l e room_1 s m #[Value.ref b] below meth c H' locs' cells' slots' Q (F0 m 1899 ls [])) : W p l e room_1 s m #[Value.ref b] below meth c H locs cells slots Q (F0 m 1754 ls []) := by
  have hbA : ¬ (fun q : Nat => s.heap.size ≤ q) b := Nat.not_le.mpr hbl
  obtain ⟨r, h', kk, n, rs', e1, e2, I', z1, z2, z3, z4⟩ := k_stand (q := q) I.1 (xs (x3 + 1).toNatClampNeg) (xs (x3 + 2).toNatClampNeg) (xs (x3 + 3).toNatClampNeg)
  refine mz_aload_n X dL_law_1754 rfl (mz_at hl 1 rfl) ?_
  refine mz_aload_n X dL_law_1755 rfl (mz_at hl 0 rfl) ?_
  refine lv_iload_n X.1 X.2.1 dL_law_1756 rfl (mz_at hl 3 rfl) ?_
  refine lv_iconst (v := 1) X.1 X.2.1 dL_law_1757 (by decide) ?_
  refine lv_iadd X.1 X.2.1 dL_law_1758 ?_
  refine va_sld X.1 X.2.1 hX hbl hbA I.2.1.2.2.2 (hin 1 (by decide)) dL_law_1759 ?_
  refine mz_aload_n X dL_law_1760 rfl (mz_at hl 0 rfl) ?_
  refine lv_iload_n X.1 X.2.1 dL_law_1761 rfl (mz_at hl 3 rfl) ?_
  refine lv_iconst (v := 2) X.1 X.2.1 dL_law_1762 (by decide) ?_
  refine lv_iadd X.1 X.2.1 dL_law_1763 ?_
  refine va_sld X.1 X.2.1 hX hbl hbA I.2.1.2.2.2 (hin 2 (by decide)) dL_law_1764 ?_
  refine mz_aload_n X dL_law_1765 rfl (mz_at hl 0 rfl) ?_
  refine lv_iload_n X.1 X.2.1 dL_law_1766 rfl (mz_at hl 3 rfl) ?_
  refine lv_iconst (v := 3) X.1 X.2.1 dL_law_1767 (by decide) ?_
  refine lv_iadd X.1 X.2.1 dL_law_1768 ?_
  refine va_sld X.1 X.2.1 hX hbl hbA I.2.1.2.2.2 (hin 3 (by decide)) dL_law_1769 ?_
  refine lw_x X I.2.1 I.1.is hl.1.1 [.int (xs (x3 + 1).toNatClampNeg), .int (xs (x3 + 2).toNatClampNeg), .int (xs (x3 + 3).toNatClampNeg)] (ct_X11_stand l g h (some o) (xs (x3 + 1).toNatClampNeg) (xs (x3 + 2).toNatClampNeg) (xs (x3 + 3).toNatClampNeg) r h' kk n e1) lb_171 li_X11_stand rfl ⟨Nat.le_of_ble_eq_true rfl, Nat.le_of_ble_eq_true rfl⟩ (lw_bud I I' z2 z3 z4) dL_law_1770 rfl (fun H1 locs1 J => ?_)
  refine mz_aload_n X dL_law_1773 rfl (mz_at hl 2 rfl) ?_
  refine mz_aload_n X dL_law_1774 rfl (mz_at hl 0 rfl) ?_
  refine lv_iload_n X.1 X.2.1 dL_law_1775 rfl (mz_at hl 3 rfl) ?_
  refine lv_iconst (v := 1) X.1 X.2.1 dL_law_1776 (by decide) ?_
  refine lv_iadd X.1 X.2.1 dL_law_1777 ?_
  refine va_sld X.1 X.2.1 hX hbl hbA J.2.2.2 (hin 1 (by decide)) dL_law_1778 ?_
  refine mz_aload_n X dL_law_1779 rfl (mz_at hl 0 rfl) ?_
  refine lv_iload_n X.1 X.2.1 dL_law_1780 rfl (mz_at hl 3 rfl) ?_
  refine lv_iconst (v := 2) X.1 X.2.1 dL_law_1781 (by decide) ?_
  refine lv_iadd X.1 X.2.1 dL_law_1782 ?_
  refine va_sld X.1 X.2.1 hX hbl hbA J.2.2.2 (hin 2 (by decide)) dL_law_1783 ?_
  refine mz_aload_n X dL_law_1784 rfl (mz_at hl 0 rfl) ?_
  refine lv_iload_n X.1 X.2.1 dL_law_1785 rfl (mz_at hl 3 rfl) ?_
  refine lv_iconst (v := 3) X.1 X.2.1 dL_law_1786 (by decide) ?_
  refine lv_iadd X.1 X.2.1 dL_law_1787 ?_
  refine va_sld X.1 X.2.1 hX hbl hbA J.2.2.2 (hin 3 (by decide)) dL_law_1788 ?_
  refine lw_m X J hl.1.1 [.int (xs (x3 + 1).toNatClampNeg), .int (xs (x3 + 2).toNatClampNeg), .int (xs (x3 + 3).toNatClampNeg)] (ct_X12_stand l g (mz_RH q h'.2 rs) (some q) (xs (x3 + 1).toNatClampNeg) (xs (x3 + 2).toNatClampNeg) (xs (x3 + 3).toNatClampNeg) r (mz_RH q h'.2 rs') 0 0 e2) lb_174 li_X12_stand rfl ⟨Nat.le_of_ble_eq_true rfl, Nat.le_of_ble_eq_true rfl⟩ (lw_bud I I' z2 z3 z4) dL_law_1789 rfl (fun H2 locs2 J2 => ?_)
  refine lv_icmp_eq (tgt := 1899) X.1 X.2.1 dL_law_1792 (by decide) (fun _ => ?_) (fun z => absurd rfl z)
  exact cont _ _ _ _ _ _ (lw_next I I' z2 z3 z4 J2)
end
theorem dL_law_1797 : decode cL_law 1797 = .ok (.aload_n 1, 1) := by decide +kernel
theorem dL_law_1798 : decode cL_law 1798 = .ok (.aload_n 0, 1) := by decide +kernel
theorem dL_law_1799 : decode cL_law 1799 = .ok (.iload_n 3, 1) := by decide +kernel
theorem dL_law_1800 : decode cL_law 1800 = .ok (.iconst 1, 1) := by decide +kernel
theorem dL_law_1801 : decode cL_law 1801 = .ok (.iadd, 1) := by decide +kernel
theorem dL_law_1802 : decode cL_law 1802 = .ok (.iaload, 1) := by decide +kernel
theorem dL_law_1803 : decode cL_law 1803 = .ok (.aload_n 0, 1) := by decide +kernel
theorem dL_law_1804 : decode cL_law 1804 = .ok (.iload_n 3, 1) := by decide +kernel
theorem dL_law_1805 : decode cL_law 1805 = .ok (.iconst 2, 1) := by decide +kernel
theorem dL_law_1806 : decode cL_law 1806 = .ok (.iadd, 1) := by decide +kernel
theorem dL_law_1807 : decode cL_law 1807 = .ok (.iaload, 1) := by decide +kernel
theorem dL_law_1808 : decode cL_law 1808 = .ok (.invokevirtual 175, 3) := by decide +kernel
theorem dL_law_1811 : decode cL_law 1811 = .ok (.aload_n 2, 1) := by decide +kernel
theorem dL_law_1812 : decode cL_law 1812 = .ok (.aload_n 0, 1) := by decide +kernel
theorem dL_law_1813 : decode cL_law 1813 = .ok (.iload_n 3, 1) := by decide +kernel
theorem dL_law_1814 : decode cL_law 1814 = .ok (.iconst 1, 1) := by decide +kernel
theorem dL_law_1815 : decode cL_law 1815 = .ok (.iadd, 1) := by decide +kernel
theorem dL_law_1816 : decode cL_law 1816 = .ok (.iaload, 1) := by decide +kernel
theorem dL_law_1817 : decode cL_law 1817 = .ok (.aload_n 0, 1) := by decide +kernel
theorem dL_law_1818 : decode cL_law 1818 = .ok (.iload_n 3, 1) := by decide +kernel
theorem dL_law_1819 : decode cL_law 1819 = .ok (.iconst 2, 1) := by decide +kernel
theorem dL_law_1820 : decode cL_law 1820 = .ok (.iadd, 1) := by decide +kernel
theorem dL_law_1821 : decode cL_law 1821 = .ok (.iaload, 1) := by decide +kernel
theorem dL_law_1822 : decode cL_law 1822 = .ok (.invokevirtual 178, 3) := by decide +kernel
theorem dL_law_1825 : decode cL_law 1825 = .ok (.if_icmp .eq 74, 3) := by decide +kernel
theorem lb_175 : mz_MB RL 175 yX11_board cX11_board 4 (some .int) 2 := ⟨mz_tb 937 (by decide +kernel) rfl, mz_tb 40 (by decide +kernel) rfl, mz_tb 940 (by decide +kernel) rfl, by decide, by decide, by decide +kernel⟩
theorem li_X11_board : Cond.instanceMethod yX11_board ∈ mz_tbl ∧ Cond.selects RX11 yX11_board yX11_board ∈ mz_tbl := ⟨mz_tb 938 (by decide +kernel) rfl, mz_tb 939 (by decide +kernel) rfl⟩
theorem lb_178 : mz_MB RL 178 yX12_board cX12_board 3 (some .int) 2 := ⟨mz_tb 1406 (by decide +kernel) rfl, mz_tb 45 (by decide +kernel) rfl, mz_tb 1409 (by decide +kernel) rfl, by decide, by decide, by decide +kernel⟩
theorem li_X12_board : Cond.instanceMethod yX12_board ∈ mz_tbl ∧ Cond.selects RX12 yX12_board yX12_board ∈ mz_tbl := ⟨mz_tb 1407 (by decide +kernel) rfl, mz_tb 1408 (by decide +kernel) rfl⟩
section
variable {p : Program} {l : Launch} {e : Env} {s : State} {m : MethodId} {below : List Frame} {meth : Method} {c : Code} {H : Heap} {locs : List Loc} {cells slots : Nat} {Q : State → Prop} {ls : Array Slot} {g : mz_G} {b L : Nat} {xs : Nat → Int32} {VB o q k : Nat} {rs : mz_RS} {h : mz_H} {x3 : Int32}
set_option maxHeartbeats 4000000 in
set_option maxRecDepth 100000 in
theorem lc_37 (X : mz_X p g RL cL_law 4 (fun q : Nat => s.heap.size ≤ q) s m #[Value.ref b] c) (hX : va_X b L xs s s.heap) (hbl : b < s.heap.size) (hin : ∀ j : Nat, j < 8 → vp_in (x3 + nI j) L) (I : lw_I g s VB o q (k + 1) rs h H locs cells slots) (hl : mz_L ls 4 [(0, false, va_rf (some b)), (1, false, va_rf (some o)), (2, false, va_rf (some q)), (3, false, .int x3)]) (cont : ∀ rs' h' H' locs' cells' slots', lw_I g s VB o q k rs' h' H' locs' cells' slots' → W p l e room_1 s m #[Value.ref b] below meth c H' locs' cells' slots' Q (F0 m 1899 ls [])) : W p l e room_1 s m #[Value.ref b] below meth c H locs cells slots Q (F0 m 1797 ls []) := by
  have hbA : ¬ (fun q : Nat => s.heap.size ≤ q) b := Nat.not_le.mpr hbl
  obtain ⟨r, h', kk, n, rs', e1, e2, I', z1, z2, z3, z4⟩ := k_board (q := q) I.1 (xs (x3 + 1).toNatClampNeg) (xs (x3 + 2).toNatClampNeg)
  refine mz_aload_n X dL_law_1797 rfl (mz_at hl 1 rfl) ?_
  refine mz_aload_n X dL_law_1798 rfl (mz_at hl 0 rfl) ?_
  refine lv_iload_n X.1 X.2.1 dL_law_1799 rfl (mz_at hl 3 rfl) ?_
  refine lv_iconst (v := 1) X.1 X.2.1 dL_law_1800 (by decide) ?_
  refine lv_iadd X.1 X.2.1 dL_law_1801 ?_
  refine va_sld X.1 X.2.1 hX hbl hbA I.2.1.2.2.2 (hin 1 (by decide)) dL_law_1802 ?_
  refine mz_aload_n X dL_law_1803 rfl (mz_at hl 0 rfl) ?_
  refine lv_iload_n X.1 X.2.1 dL_law_1804 rfl (mz_at hl 3 rfl) ?_
  refine lv_iconst (v := 2) X.1 X.2.1 dL_law_1805 (by decide) ?_
  refine lv_iadd X.1 X.2.1 dL_law_1806 ?_
  refine va_sld X.1 X.2.1 hX hbl hbA I.2.1.2.2.2 (hin 2 (by decide)) dL_law_1807 ?_
  refine lw_x X I.2.1 I.1.is hl.1.1 [.int (xs (x3 + 1).toNatClampNeg), .int (xs (x3 + 2).toNatClampNeg)] (ct_X11_board l g h (some o) (xs (x3 + 1).toNatClampNeg) (xs (x3 + 2).toNatClampNeg) r h' kk n e1) lb_175 li_X11_board rfl ⟨Nat.le_of_ble_eq_true rfl, Nat.le_of_ble_eq_true rfl⟩ (lw_bud I I' z2 z3 z4) dL_law_1808 rfl (fun H1 locs1 J => ?_)
  refine mz_aload_n X dL_law_1811 rfl (mz_at hl 2 rfl) ?_
  refine mz_aload_n X dL_law_1812 rfl (mz_at hl 0 rfl) ?_
  refine lv_iload_n X.1 X.2.1 dL_law_1813 rfl (mz_at hl 3 rfl) ?_
  refine lv_iconst (v := 1) X.1 X.2.1 dL_law_1814 (by decide) ?_
  refine lv_iadd X.1 X.2.1 dL_law_1815 ?_
  refine va_sld X.1 X.2.1 hX hbl hbA J.2.2.2 (hin 1 (by decide)) dL_law_1816 ?_
  refine mz_aload_n X dL_law_1817 rfl (mz_at hl 0 rfl) ?_
  refine lv_iload_n X.1 X.2.1 dL_law_1818 rfl (mz_at hl 3 rfl) ?_
  refine lv_iconst (v := 2) X.1 X.2.1 dL_law_1819 (by decide) ?_
  refine lv_iadd X.1 X.2.1 dL_law_1820 ?_
  refine va_sld X.1 X.2.1 hX hbl hbA J.2.2.2 (hin 2 (by decide)) dL_law_1821 ?_
  refine lw_m X J hl.1.1 [.int (xs (x3 + 1).toNatClampNeg), .int (xs (x3 + 2).toNatClampNeg)] (ct_X12_board l g (mz_RH q h'.2 rs) (some q) (xs (x3 + 1).toNatClampNeg) (xs (x3 + 2).toNatClampNeg) r (mz_RH q h'.2 rs') 0 0 e2) lb_178 li_X12_board rfl ⟨Nat.le_of_ble_eq_true rfl, Nat.le_of_ble_eq_true rfl⟩ (lw_bud I I' z2 z3 z4) dL_law_1822 rfl (fun H2 locs2 J2 => ?_)
  refine lv_icmp_eq (tgt := 1899) X.1 X.2.1 dL_law_1825 (by decide) (fun _ => ?_) (fun z => absurd rfl z)
  exact cont _ _ _ _ _ _ (lw_next I I' z2 z3 z4 J2)
end
theorem dL_law_1830 : decode cL_law 1830 = .ok (.aload_n 1, 1) := by decide +kernel
theorem dL_law_1831 : decode cL_law 1831 = .ok (.aload_n 0, 1) := by decide +kernel
theorem dL_law_1832 : decode cL_law 1832 = .ok (.iload_n 3, 1) := by decide +kernel
theorem dL_law_1833 : decode cL_law 1833 = .ok (.iconst 1, 1) := by decide +kernel
theorem dL_law_1834 : decode cL_law 1834 = .ok (.iadd, 1) := by decide +kernel
theorem dL_law_1835 : decode cL_law 1835 = .ok (.iaload, 1) := by decide +kernel
theorem dL_law_1836 : decode cL_law 1836 = .ok (.aload_n 0, 1) := by decide +kernel
theorem dL_law_1837 : decode cL_law 1837 = .ok (.iload_n 3, 1) := by decide +kernel
theorem dL_law_1838 : decode cL_law 1838 = .ok (.iconst 2, 1) := by decide +kernel
theorem dL_law_1839 : decode cL_law 1839 = .ok (.iadd, 1) := by decide +kernel
theorem dL_law_1840 : decode cL_law 1840 = .ok (.iaload, 1) := by decide +kernel
theorem dL_law_1841 : decode cL_law 1841 = .ok (.invokevirtual 179, 3) := by decide +kernel
theorem dL_law_1844 : decode cL_law 1844 = .ok (.aload_n 2, 1) := by decide +kernel
theorem dL_law_1845 : decode cL_law 1845 = .ok (.aload_n 0, 1) := by decide +kernel
theorem dL_law_1846 : decode cL_law 1846 = .ok (.iload_n 3, 1) := by decide +kernel
theorem dL_law_1847 : decode cL_law 1847 = .ok (.iconst 1, 1) := by decide +kernel
theorem dL_law_1848 : decode cL_law 1848 = .ok (.iadd, 1) := by decide +kernel
theorem dL_law_1849 : decode cL_law 1849 = .ok (.iaload, 1) := by decide +kernel
theorem dL_law_1850 : decode cL_law 1850 = .ok (.aload_n 0, 1) := by decide +kernel
theorem dL_law_1851 : decode cL_law 1851 = .ok (.iload_n 3, 1) := by decide +kernel
theorem dL_law_1852 : decode cL_law 1852 = .ok (.iconst 2, 1) := by decide +kernel
theorem dL_law_1853 : decode cL_law 1853 = .ok (.iadd, 1) := by decide +kernel
theorem dL_law_1854 : decode cL_law 1854 = .ok (.iaload, 1) := by decide +kernel
theorem dL_law_1855 : decode cL_law 1855 = .ok (.invokevirtual 182, 3) := by decide +kernel
theorem dL_law_1858 : decode cL_law 1858 = .ok (.if_icmp .eq 41, 3) := by decide +kernel
theorem lb_179 : mz_MB RL 179 yX11_trial cX11_trial 3 (some .int) 2 := ⟨mz_tb 941 (by decide +kernel) rfl, mz_tb 40 (by decide +kernel) rfl, mz_tb 944 (by decide +kernel) rfl, by decide, by decide, by decide +kernel⟩
theorem li_X11_trial : Cond.instanceMethod yX11_trial ∈ mz_tbl ∧ Cond.selects RX11 yX11_trial yX11_trial ∈ mz_tbl := ⟨mz_tb 942 (by decide +kernel) rfl, mz_tb 943 (by decide +kernel) rfl⟩
theorem lb_182 : mz_MB RL 182 yX12_trial cX12_trial 3 (some .int) 2 := ⟨mz_tb 1410 (by decide +kernel) rfl, mz_tb 45 (by decide +kernel) rfl, mz_tb 1413 (by decide +kernel) rfl, by decide, by decide, by decide +kernel⟩
theorem li_X12_trial : Cond.instanceMethod yX12_trial ∈ mz_tbl ∧ Cond.selects RX12 yX12_trial yX12_trial ∈ mz_tbl := ⟨mz_tb 1411 (by decide +kernel) rfl, mz_tb 1412 (by decide +kernel) rfl⟩
section
variable {p : Program} {l : Launch} {e : Env} {s : State} {m : MethodId} {below : List Frame} {meth : Method} {c : Code} {H : Heap} {locs : List Loc} {cells slots : Nat} {Q : State → Prop} {ls : Array Slot} {g : mz_G} {b L : Nat} {xs : Nat → Int32} {VB o q k : Nat} {rs : mz_RS} {h : mz_H} {x3 : Int32}
set_option maxHeartbeats 4000000 in
set_option maxRecDepth 100000 in
theorem lc_38 (X : mz_X p g RL cL_law 4 (fun q : Nat => s.heap.size ≤ q) s m #[Value.ref b] c) (hX : va_X b L xs s s.heap) (hbl : b < s.heap.size) (hin : ∀ j : Nat, j < 8 → vp_in (x3 + nI j) L) (I : lw_I g s VB o q (k + 1) rs h H locs cells slots) (hl : mz_L ls 4 [(0, false, va_rf (some b)), (1, false, va_rf (some o)), (2, false, va_rf (some q)), (3, false, .int x3)]) (cont : ∀ rs' h' H' locs' cells' slots', lw_I g s VB o q k rs' h' H' locs' cells' slots' → W p l e room_1 s m #[Value.ref b] below meth c H' locs' cells' slots' Q (F0 m 1899 ls [])) : W p l e room_1 s m #[Value.ref b] below meth c H locs cells slots Q (F0 m 1830 ls []) := by
  have hbA : ¬ (fun q : Nat => s.heap.size ≤ q) b := Nat.not_le.mpr hbl
  obtain ⟨r, h', kk, n, rs', e1, e2, I', z1, z2, z3, z4⟩ := k_trial (q := q) I.1 (xs (x3 + 1).toNatClampNeg) (xs (x3 + 2).toNatClampNeg)
  refine mz_aload_n X dL_law_1830 rfl (mz_at hl 1 rfl) ?_
  refine mz_aload_n X dL_law_1831 rfl (mz_at hl 0 rfl) ?_
  refine lv_iload_n X.1 X.2.1 dL_law_1832 rfl (mz_at hl 3 rfl) ?_
  refine lv_iconst (v := 1) X.1 X.2.1 dL_law_1833 (by decide) ?_
  refine lv_iadd X.1 X.2.1 dL_law_1834 ?_
  refine va_sld X.1 X.2.1 hX hbl hbA I.2.1.2.2.2 (hin 1 (by decide)) dL_law_1835 ?_
  refine mz_aload_n X dL_law_1836 rfl (mz_at hl 0 rfl) ?_
  refine lv_iload_n X.1 X.2.1 dL_law_1837 rfl (mz_at hl 3 rfl) ?_
  refine lv_iconst (v := 2) X.1 X.2.1 dL_law_1838 (by decide) ?_
  refine lv_iadd X.1 X.2.1 dL_law_1839 ?_
  refine va_sld X.1 X.2.1 hX hbl hbA I.2.1.2.2.2 (hin 2 (by decide)) dL_law_1840 ?_
  refine lw_x X I.2.1 I.1.is hl.1.1 [.int (xs (x3 + 1).toNatClampNeg), .int (xs (x3 + 2).toNatClampNeg)] (ct_X11_trial l g h (some o) (xs (x3 + 1).toNatClampNeg) (xs (x3 + 2).toNatClampNeg) r h' kk n e1) lb_179 li_X11_trial rfl ⟨Nat.le_of_ble_eq_true rfl, Nat.le_of_ble_eq_true rfl⟩ (lw_bud I I' z2 z3 z4) dL_law_1841 rfl (fun H1 locs1 J => ?_)
  refine mz_aload_n X dL_law_1844 rfl (mz_at hl 2 rfl) ?_
  refine mz_aload_n X dL_law_1845 rfl (mz_at hl 0 rfl) ?_
  refine lv_iload_n X.1 X.2.1 dL_law_1846 rfl (mz_at hl 3 rfl) ?_
  refine lv_iconst (v := 1) X.1 X.2.1 dL_law_1847 (by decide) ?_
  refine lv_iadd X.1 X.2.1 dL_law_1848 ?_
  refine va_sld X.1 X.2.1 hX hbl hbA J.2.2.2 (hin 1 (by decide)) dL_law_1849 ?_
  refine mz_aload_n X dL_law_1850 rfl (mz_at hl 0 rfl) ?_
  refine lv_iload_n X.1 X.2.1 dL_law_1851 rfl (mz_at hl 3 rfl) ?_
  refine lv_iconst (v := 2) X.1 X.2.1 dL_law_1852 (by decide) ?_
  refine lv_iadd X.1 X.2.1 dL_law_1853 ?_
  refine va_sld X.1 X.2.1 hX hbl hbA J.2.2.2 (hin 2 (by decide)) dL_law_1854 ?_
  refine lw_m X J hl.1.1 [.int (xs (x3 + 1).toNatClampNeg), .int (xs (x3 + 2).toNatClampNeg)] (ct_X12_trial l g (mz_RH q h'.2 rs) (some q) (xs (x3 + 1).toNatClampNeg) (xs (x3 + 2).toNatClampNeg) r (mz_RH q h'.2 rs') 0 0 e2) lb_182 li_X12_trial rfl ⟨Nat.le_of_ble_eq_true rfl, Nat.le_of_ble_eq_true rfl⟩ (lw_bud I I' z2 z3 z4) dL_law_1855 rfl (fun H2 locs2 J2 => ?_)
  refine lv_icmp_eq (tgt := 1899) X.1 X.2.1 dL_law_1858 (by decide) (fun _ => ?_) (fun z => absurd rfl z)
  exact cont _ _ _ _ _ _ (lw_next I I' z2 z3 z4 J2)
end
theorem dL_law_1863 : decode cL_law 1863 = .ok (.aload_n 1, 1) := by decide +kernel
theorem dL_law_1864 : decode cL_law 1864 = .ok (.invokevirtual 183, 3) := by decide +kernel
theorem dL_law_1867 : decode cL_law 1867 = .ok (.aload_n 2, 1) := by decide +kernel
theorem dL_law_1868 : decode cL_law 1868 = .ok (.invokevirtual 187, 3) := by decide +kernel
theorem dL_law_1871 : decode cL_law 1871 = .ok (.if_icmp .eq 28, 3) := by decide +kernel
theorem lb_183 : mz_MB RL 183 yX11_fault cX11_fault 1 (some .int) 0 := ⟨mz_tb 945 (by decide +kernel) rfl, mz_tb 40 (by decide +kernel) rfl, mz_tb 948 (by decide +kernel) rfl, by decide, by decide, by decide +kernel⟩
theorem li_X11_fault : Cond.instanceMethod yX11_fault ∈ mz_tbl ∧ Cond.selects RX11 yX11_fault yX11_fault ∈ mz_tbl := ⟨mz_tb 946 (by decide +kernel) rfl, mz_tb 947 (by decide +kernel) rfl⟩
theorem lb_187 : mz_MB RL 187 yX12_fault cX12_fault 1 (some .int) 0 := ⟨mz_tb 1414 (by decide +kernel) rfl, mz_tb 45 (by decide +kernel) rfl, mz_tb 1417 (by decide +kernel) rfl, by decide, by decide, by decide +kernel⟩
theorem li_X12_fault : Cond.instanceMethod yX12_fault ∈ mz_tbl ∧ Cond.selects RX12 yX12_fault yX12_fault ∈ mz_tbl := ⟨mz_tb 1415 (by decide +kernel) rfl, mz_tb 1416 (by decide +kernel) rfl⟩
section
variable {p : Program} {l : Launch} {e : Env} {s : State} {m : MethodId} {below : List Frame} {meth : Method} {c : Code} {H : Heap} {locs : List Loc} {cells slots : Nat} {Q : State → Prop} {ls : Array Slot} {g : mz_G} {b L : Nat} {xs : Nat → Int32} {VB o q k : Nat} {rs : mz_RS} {h : mz_H} {x3 : Int32}
set_option maxHeartbeats 4000000 in
set_option maxRecDepth 100000 in
theorem lc_39 (X : mz_X p g RL cL_law 4 (fun q : Nat => s.heap.size ≤ q) s m #[Value.ref b] c) (hX : va_X b L xs s s.heap) (hbl : b < s.heap.size) (hin : ∀ j : Nat, j < 8 → vp_in (x3 + nI j) L) (I : lw_I g s VB o q (k + 1) rs h H locs cells slots) (hl : mz_L ls 4 [(0, false, va_rf (some b)), (1, false, va_rf (some o)), (2, false, va_rf (some q)), (3, false, .int x3)]) (cont : ∀ rs' h' H' locs' cells' slots', lw_I g s VB o q k rs' h' H' locs' cells' slots' → W p l e room_1 s m #[Value.ref b] below meth c H' locs' cells' slots' Q (F0 m 1899 ls [])) : W p l e room_1 s m #[Value.ref b] below meth c H locs cells slots Q (F0 m 1863 ls []) := by
  have hbA : ¬ (fun q : Nat => s.heap.size ≤ q) b := Nat.not_le.mpr hbl
  obtain ⟨r, h', kk, n, rs', e1, e2, I', z1, z2, z3, z4⟩ := k_fault (q := q) I.1
  refine mz_aload_n X dL_law_1863 rfl (mz_at hl 1 rfl) ?_
  refine lw_x X I.2.1 I.1.is hl.1.1 [] (ct_X11_fault l g h (some o) r h' kk n e1) lb_183 li_X11_fault rfl ⟨Nat.le_of_ble_eq_true rfl, Nat.le_of_ble_eq_true rfl⟩ (lw_bud I I' z2 z3 z4) dL_law_1864 rfl (fun H1 locs1 J => ?_)
  refine mz_aload_n X dL_law_1867 rfl (mz_at hl 2 rfl) ?_
  refine lw_m X J hl.1.1 [] (ct_X12_fault l g (mz_RH q h'.2 rs) (some q) r (mz_RH q h'.2 rs') 0 0 e2) lb_187 li_X12_fault rfl ⟨Nat.le_of_ble_eq_true rfl, Nat.le_of_ble_eq_true rfl⟩ (lw_bud I I' z2 z3 z4) dL_law_1868 rfl (fun H2 locs2 J2 => ?_)
  refine lv_icmp_eq (tgt := 1899) X.1 X.2.1 dL_law_1871 (by decide) (fun _ => ?_) (fun z => absurd rfl z)
  exact cont _ _ _ _ _ _ (lw_next I I' z2 z3 z4 J2)
end
theorem dL_law_1876 : decode cL_law 1876 = .ok (.aload_n 1, 1) := by decide +kernel
theorem dL_law_1877 : decode cL_law 1877 = .ok (.aload_n 0, 1) := by decide +kernel
theorem dL_law_1878 : decode cL_law 1878 = .ok (.iload_n 3, 1) := by decide +kernel
theorem dL_law_1879 : decode cL_law 1879 = .ok (.iconst 1, 1) := by decide +kernel
theorem dL_law_1880 : decode cL_law 1880 = .ok (.iadd, 1) := by decide +kernel
theorem dL_law_1881 : decode cL_law 1881 = .ok (.iaload, 1) := by decide +kernel
theorem dL_law_1882 : decode cL_law 1882 = .ok (.invokevirtual 188, 3) := by decide +kernel
theorem dL_law_1885 : decode cL_law 1885 = .ok (.aload_n 2, 1) := by decide +kernel
theorem dL_law_1886 : decode cL_law 1886 = .ok (.aload_n 0, 1) := by decide +kernel
theorem dL_law_1887 : decode cL_law 1887 = .ok (.iload_n 3, 1) := by decide +kernel
theorem dL_law_1888 : decode cL_law 1888 = .ok (.iconst 1, 1) := by decide +kernel
theorem dL_law_1889 : decode cL_law 1889 = .ok (.iadd, 1) := by decide +kernel
theorem dL_law_1890 : decode cL_law 1890 = .ok (.iaload, 1) := by decide +kernel
theorem dL_law_1891 : decode cL_law 1891 = .ok (.invokevirtual 191, 3) := by decide +kernel
theorem dL_law_1894 : decode cL_law 1894 = .ok (.if_icmp .eq 5, 3) := by decide +kernel
theorem lb_188 : mz_MB RL 188 yX11_told cX11_told 2 (some .int) 1 := ⟨mz_tb 949 (by decide +kernel) rfl, mz_tb 40 (by decide +kernel) rfl, mz_tb 952 (by decide +kernel) rfl, by decide, by decide, by decide +kernel⟩
theorem li_X11_told : Cond.instanceMethod yX11_told ∈ mz_tbl ∧ Cond.selects RX11 yX11_told yX11_told ∈ mz_tbl := ⟨mz_tb 950 (by decide +kernel) rfl, mz_tb 951 (by decide +kernel) rfl⟩
theorem lb_191 : mz_MB RL 191 yX12_told cX12_told 4 (some .int) 1 := ⟨mz_tb 1418 (by decide +kernel) rfl, mz_tb 45 (by decide +kernel) rfl, mz_tb 1421 (by decide +kernel) rfl, by decide, by decide, by decide +kernel⟩
theorem li_X12_told : Cond.instanceMethod yX12_told ∈ mz_tbl ∧ Cond.selects RX12 yX12_told yX12_told ∈ mz_tbl := ⟨mz_tb 1419 (by decide +kernel) rfl, mz_tb 1420 (by decide +kernel) rfl⟩
section
variable {p : Program} {l : Launch} {e : Env} {s : State} {m : MethodId} {below : List Frame} {meth : Method} {c : Code} {H : Heap} {locs : List Loc} {cells slots : Nat} {Q : State → Prop} {ls : Array Slot} {g : mz_G} {b L : Nat} {xs : Nat → Int32} {VB o q k : Nat} {rs : mz_RS} {h : mz_H} {x3 : Int32}
set_option maxHeartbeats 4000000 in
set_option maxRecDepth 100000 in
theorem lc_40 (X : mz_X p g RL cL_law 4 (fun q : Nat => s.heap.size ≤ q) s m #[Value.ref b] c) (hX : va_X b L xs s s.heap) (hbl : b < s.heap.size) (hin : ∀ j : Nat, j < 8 → vp_in (x3 + nI j) L) (I : lw_I g s VB o q (k + 1) rs h H locs cells slots) (hl : mz_L ls 4 [(0, false, va_rf (some b)), (1, false, va_rf (some o)), (2, false, va_rf (some q)), (3, false, .int x3)]) (cont : ∀ rs' h' H' locs' cells' slots', lw_I g s VB o q k rs' h' H' locs' cells' slots' → W p l e room_1 s m #[Value.ref b] below meth c H' locs' cells' slots' Q (F0 m 1899 ls [])) : W p l e room_1 s m #[Value.ref b] below meth c H locs cells slots Q (F0 m 1876 ls []) := by
  have hbA : ¬ (fun q : Nat => s.heap.size ≤ q) b := Nat.not_le.mpr hbl
  obtain ⟨r, h', kk, n, rs', e1, e2, I', z1, z2, z3, z4⟩ := k_told (q := q) I.1 (xs (x3 + 1).toNatClampNeg)
  refine mz_aload_n X dL_law_1876 rfl (mz_at hl 1 rfl) ?_
  refine mz_aload_n X dL_law_1877 rfl (mz_at hl 0 rfl) ?_
  refine lv_iload_n X.1 X.2.1 dL_law_1878 rfl (mz_at hl 3 rfl) ?_
  refine lv_iconst (v := 1) X.1 X.2.1 dL_law_1879 (by decide) ?_
  refine lv_iadd X.1 X.2.1 dL_law_1880 ?_
  refine va_sld X.1 X.2.1 hX hbl hbA I.2.1.2.2.2 (hin 1 (by decide)) dL_law_1881 ?_
  refine lw_x X I.2.1 I.1.is hl.1.1 [.int (xs (x3 + 1).toNatClampNeg)] (ct_X11_told l g h (some o) (xs (x3 + 1).toNatClampNeg) r h' kk n e1) lb_188 li_X11_told rfl ⟨Nat.le_of_ble_eq_true rfl, Nat.le_of_ble_eq_true rfl⟩ (lw_bud I I' z2 z3 z4) dL_law_1882 rfl (fun H1 locs1 J => ?_)
  refine mz_aload_n X dL_law_1885 rfl (mz_at hl 2 rfl) ?_
  refine mz_aload_n X dL_law_1886 rfl (mz_at hl 0 rfl) ?_
  refine lv_iload_n X.1 X.2.1 dL_law_1887 rfl (mz_at hl 3 rfl) ?_
  refine lv_iconst (v := 1) X.1 X.2.1 dL_law_1888 (by decide) ?_
  refine lv_iadd X.1 X.2.1 dL_law_1889 ?_
  refine va_sld X.1 X.2.1 hX hbl hbA J.2.2.2 (hin 1 (by decide)) dL_law_1890 ?_
  refine lw_m X J hl.1.1 [.int (xs (x3 + 1).toNatClampNeg)] (ct_X12_told l g (mz_RH q h'.2 rs) (some q) (xs (x3 + 1).toNatClampNeg) r (mz_RH q h'.2 rs') 0 0 e2) lb_191 li_X12_told rfl ⟨Nat.le_of_ble_eq_true rfl, Nat.le_of_ble_eq_true rfl⟩ (lw_bud I I' z2 z3 z4) dL_law_1891 rfl (fun H2 locs2 J2 => ?_)
  refine lv_icmp_eq (tgt := 1899) X.1 X.2.1 dL_law_1894 (by decide) (fun _ => ?_) (fun z => absurd rfl z)
  exact cont _ _ _ _ _ _ (lw_next I I' z2 z3 z4 J2)
end
