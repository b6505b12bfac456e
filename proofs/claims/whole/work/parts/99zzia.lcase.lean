/-! THE LAW'S WALK, 6.2: its cases -/
theorem C_need {len I : Nat} {sc : Nat → Int32} {g : Bool} {f : Nat → Int32} {μX μM : zMem} {ca cb : Nat} (hI : I + 7 ≤ len) (hl : len ≤ 3584) (h : zInv μX μM) (k : ∀ (f' : Nat → Int32) (μX' μM' : zMem), zInv μX' μM' → zLaw len sc 2685 (zLoc (zi I) .null .null) [] g μM' f' μX' ca cb) : zLaw len sc 1371 (zLoc (zi I) .null .null) [] g μM f μX (ca + 1) (cb + 6) := by
  obtain ⟨e, v, μX', w, μM', hr, hr', h0, hv, he, hi⟩ := P_need (x := sc (I + 1)) (y := sc (I + 2)) h
  have T : ∀ (kx : Int32) (f' : Nat → Int32), μM' 0 0 = kx → (kx = 0 → f' 0 = w) → zLaw len sc 1388 (zLoc (zi I) .null .null) [.int kx] g μM f' μX' ca cb := by
    intro kx f' q1 q2
    refine yA_istore (pc := 1388) (L' := zLoc (zi I) (.int kx) .null) dL_law_1388 (by decide) rfl ?_
    refine yA_aload_n (pc := 1390) dL_law_1390 rfl ?_
    refine L_arg (pc := 1391) (k := 1) hI hl (by decide) dL_law_1391 dL_law_1392 dL_law_1394 (by decide) dL_law_1395 dL_law_1396 ?_
    refine L_arg (pc := 1397) (k := 2) hI hl (by decide) dL_law_1397 dL_law_1398 dL_law_1400 (by decide) dL_law_1401 dL_law_1402 ?_
    refine L_ref (pc := 1403) (As := [.int (sc (I + 1)), .int (sc (I + 2))]) (st := []) kvL_202 (t9_need (sc (I + 1)) (sc (I + 2)) μM) hr' (by decide) rfl rfl (fun q e => by cases e) (fun q e => by cases e) (fun w hw => absurd hw List.not_mem_nil) (by decide) dL_law_1403 ?_
    exact L_tail tl_need q1 q2 (k f' μX' μM' hi)
  refine yA_aload_n (pc := 1371) dL_law_1371 rfl ?_
  refine L_arg (pc := 1372) (k := 1) hI hl (by decide) dL_law_1372 dL_law_1373 dL_law_1375 (by decide) dL_law_1376 dL_law_1377 ?_
  refine L_arg (pc := 1378) (k := 2) hI hl (by decide) dL_law_1378 dL_law_1379 dL_law_1381 (by decide) dL_law_1382 dL_law_1383 ?_
  refine yA_aload_n (pc := 1384) dL_law_1384 rfl ?_
  rcases he with rfl | he
  · exact L_wrap (pc := 1385) kwL_200 (tw_need hr) (by decide) rfl rfl (Or.inl rfl) (by omega) (by omega) dL_law_1385 (T 0 _ (h0.trans (by decide)) (fun _ => hv rfl))
  · rcases cI_cases he with rfl
    · exact L_wrap (pc := 1385) kwL_200 (tw_need_x1 hr) (by decide) rfl rfl (Or.inl rfl) (by omega) (by omega) dL_law_1385 (T 1 _ (h0.trans (by decide)) (fun q => absurd q (by decide)))
theorem C_choose {len I : Nat} {sc : Nat → Int32} {g : Bool} {f : Nat → Int32} {μX μM : zMem} {ca cb : Nat} (hI : I + 7 ≤ len) (hl : len ≤ 3584) (h : zInv μX μM) (k : ∀ (f' : Nat → Int32) (μX' μM' : zMem), zInv μX' μM' → zLaw len sc 2685 (zLoc (zi I) .null .null) [] g μM' f' μX' ca cb) : zLaw len sc 1439 (zLoc (zi I) .null .null) [] g μM f μX (ca + 1) (cb + 6) := by
  obtain ⟨e, v, μX', w, μM', hr, hr', h0, hv, he, hi⟩ := P_choose  h
  obtain rfl : e = 0 := he.resolve_right (fun q => absurd q (Nat.lt_irrefl 0))
  obtain rfl := hv rfl
  refine yA_more (Nat.le_add_right ca 1) (Nat.le_add_right cb 6) ?_
  refine yA_aload_n (pc := 1439) dL_law_1439 rfl ?_
  refine L_cls (pc := 1440) (As := []) (st := []) kvL_203 (t8_choose μX) hr (by decide) rfl rfl (fun w hw => absurd hw List.not_mem_nil) (by decide) dL_law_1440 ?_
  refine yA_aload_n (pc := 1443) dL_law_1443 rfl ?_
  refine L_ref (pc := 1444) (As := []) (st := [.int v]) kvL_206 (t9_choose μM) hr' (by decide) rfl rfl (fun q e => by cases e) (fun q e => by cases e) L_one (Nat.le_of_ble_eq_true rfl) dL_law_1444 ?_
  exact yA_icmp_eq_t (pc := 1447) (tgt := 2685) dL_law_1447 (by decide) rfl (k f μX' μM' hi)
theorem tl_stranger : zTl 1499 := ⟨dL_law_1499, dL_law_1501, dL_law_1502, dL_law_1505, dL_law_1507, dL_law_1512, dL_law_1514, dL_law_1517, dL_law_1518, dL_law_1519, dL_law_1520, dL_law_1522, dL_law_1523, dL_law_1524, 1156, dL_law_1529, by decide⟩
theorem C_stranger {len I : Nat} {sc : Nat → Int32} {g : Bool} {f : Nat → Int32} {μX μM : zMem} {ca cb : Nat} (hI : I + 7 ≤ len) (hl : len ≤ 3584) (h : zInv μX μM) (k : ∀ (f' : Nat → Int32) (μX' μM' : zMem), zInv μX' μM' → zLaw len sc 2685 (zLoc (zi I) .null .null) [] g μM' f' μX' ca cb) : zLaw len sc 1452 (zLoc (zi I) .null .null) [] g μM f μX (ca + 1) (cb + 6) := by
  obtain ⟨e, v, μX', w, μM', hr, hr', h0, hv, he, hi⟩ := P_stranger (x := sc (I + 1)) (y := sc (I + 2)) (z := sc (I + 3)) h
  have T : ∀ (kx : Int32) (f' : Nat → Int32), μM' 0 0 = kx → (kx = 0 → f' 0 = w) → zLaw len sc 1475 (zLoc (zi I) .null .null) [.int kx] g μM f' μX' ca cb := by
    intro kx f' q1 q2
    refine yA_istore (pc := 1475) (L' := zLoc (zi I) (.int kx) .null) dL_law_1475 (by decide) rfl ?_
    refine yA_aload_n (pc := 1477) dL_law_1477 rfl ?_
    refine L_arg (pc := 1478) (k := 1) hI hl (by decide) dL_law_1478 dL_law_1479 dL_law_1481 (by decide) dL_law_1482 dL_law_1483 ?_
    refine L_arg (pc := 1484) (k := 2) hI hl (by decide) dL_law_1484 dL_law_1485 dL_law_1487 (by decide) dL_law_1488 dL_law_1489 ?_
    refine L_arg (pc := 1490) (k := 3) hI hl (by decide) dL_law_1490 dL_law_1491 dL_law_1493 (by decide) dL_law_1494 dL_law_1495 ?_
    refine L_ref (pc := 1496) (As := [.int (sc (I + 1)), .int (sc (I + 2)), .int (sc (I + 3))]) (st := []) kvL_209 (t9_stranger (sc (I + 1)) (sc (I + 2)) (sc (I + 3)) μM) hr' (by decide) rfl rfl (fun q e => by cases e) (fun q e => by cases e) (fun w hw => absurd hw List.not_mem_nil) (by decide) dL_law_1496 ?_
    exact L_tail tl_stranger q1 q2 (k f' μX' μM' hi)
  refine yA_aload_n (pc := 1452) dL_law_1452 rfl ?_
  refine L_arg (pc := 1453) (k := 1) hI hl (by decide) dL_law_1453 dL_law_1454 dL_law_1456 (by decide) dL_law_1457 dL_law_1458 ?_
  refine L_arg (pc := 1459) (k := 2) hI hl (by decide) dL_law_1459 dL_law_1460 dL_law_1462 (by decide) dL_law_1463 dL_law_1464 ?_
  refine L_arg (pc := 1465) (k := 3) hI hl (by decide) dL_law_1465 dL_law_1466 dL_law_1468 (by decide) dL_law_1469 dL_law_1470 ?_
  refine yA_aload_n (pc := 1471) dL_law_1471 rfl ?_
  rcases he with rfl | he
  · exact L_wrap (pc := 1472) kwL_207 (tw_stranger hr) (by decide) rfl rfl (Or.inl rfl) (by omega) (by omega) dL_law_1472 (T 0 _ (h0.trans (by decide)) (fun _ => hv rfl))
  · rcases cI_cases he with rfl
    · exact L_wrap (pc := 1472) kwL_207 (tw_stranger_x1 hr) (by decide) rfl rfl (Or.inl rfl) (by omega) (by omega) dL_law_1472 (T 1 _ (h0.trans (by decide)) (fun q => absurd q (by decide)))
theorem tl_night : zTl 1555 := ⟨dL_law_1555, dL_law_1557, dL_law_1558, dL_law_1561, dL_law_1563, dL_law_1568, dL_law_1570, dL_law_1573, dL_law_1574, dL_law_1575, dL_law_1576, dL_law_1578, dL_law_1579, dL_law_1580, 1100, dL_law_1585, by decide⟩
theorem C_night {len I : Nat} {sc : Nat → Int32} {g : Bool} {f : Nat → Int32} {μX μM : zMem} {ca cb : Nat} (hI : I + 7 ≤ len) (hl : len ≤ 3584) (h : zInv μX μM) (k : ∀ (f' : Nat → Int32) (μX' μM' : zMem), zInv μX' μM' → zLaw len sc 2685 (zLoc (zi I) .null .null) [] g μM' f' μX' ca cb) : zLaw len sc 1532 (zLoc (zi I) .null .null) [] g μM f μX (ca + 1) (cb + 6) := by
  obtain ⟨e, v, μX', w, μM', hr, hr', h0, hv, he, hi⟩ := P_night (x := sc (I + 1)) h
  have T : ∀ (kx : Int32) (f' : Nat → Int32), μM' 0 0 = kx → (kx = 0 → f' 0 = w) → zLaw len sc 1543 (zLoc (zi I) .null .null) [.int kx] g μM f' μX' ca cb := by
    intro kx f' q1 q2
    refine yA_istore (pc := 1543) (L' := zLoc (zi I) (.int kx) .null) dL_law_1543 (by decide) rfl ?_
    refine yA_aload_n (pc := 1545) dL_law_1545 rfl ?_
    refine L_arg (pc := 1546) (k := 1) hI hl (by decide) dL_law_1546 dL_law_1547 dL_law_1549 (by decide) dL_law_1550 dL_law_1551 ?_
    refine L_ref (pc := 1552) (As := [.int (sc (I + 1))]) (st := []) kvL_212 (t9_night (sc (I + 1)) μM) hr' (by decide) rfl rfl (fun q e => by cases e) (fun q e => by cases e) (fun w hw => absurd hw List.not_mem_nil) (by decide) dL_law_1552 ?_
    exact L_tail tl_night q1 q2 (k f' μX' μM' hi)
  refine yA_aload_n (pc := 1532) dL_law_1532 rfl ?_
  refine L_arg (pc := 1533) (k := 1) hI hl (by decide) dL_law_1533 dL_law_1534 dL_law_1536 (by decide) dL_law_1537 dL_law_1538 ?_
  refine yA_aload_n (pc := 1539) dL_law_1539 rfl ?_
  rcases he with rfl | he
  · exact L_wrap (pc := 1540) kwL_210 (tw_night hr) (by decide) rfl rfl (Or.inl rfl) (by omega) (by omega) dL_law_1540 (T 0 _ (h0.trans (by decide)) (fun _ => hv rfl))
  · rcases cI_cases he with rfl
    · exact L_wrap (pc := 1540) kwL_210 (tw_night_x1 hr) (by decide) rfl rfl (Or.inl rfl) (by omega) (by omega) dL_law_1540 (T 1 _ (h0.trans (by decide)) (fun q => absurd q (by decide)))
theorem tl_best : zTl 1611 := ⟨dL_law_1611, dL_law_1613, dL_law_1614, dL_law_1617, dL_law_1619, dL_law_1624, dL_law_1626, dL_law_1629, dL_law_1630, dL_law_1631, dL_law_1632, dL_law_1634, dL_law_1635, dL_law_1636, 1044, dL_law_1641, by decide⟩
theorem C_best {len I : Nat} {sc : Nat → Int32} {g : Bool} {f : Nat → Int32} {μX μM : zMem} {ca cb : Nat} (hI : I + 7 ≤ len) (hl : len ≤ 3584) (h : zInv μX μM) (k : ∀ (f' : Nat → Int32) (μX' μM' : zMem), zInv μX' μM' → zLaw len sc 2685 (zLoc (zi I) .null .null) [] g μM' f' μX' ca cb) : zLaw len sc 1588 (zLoc (zi I) .null .null) [] g μM f μX (ca + 1) (cb + 6) := by
  obtain ⟨e, v, μX', w, μM', hr, hr', h0, hv, he, hi⟩ := P_best (x := sc (I + 1)) h
  have T : ∀ (kx : Int32) (f' : Nat → Int32), μM' 0 0 = kx → (kx = 0 → f' 0 = w) → zLaw len sc 1599 (zLoc (zi I) .null .null) [.int kx] g μM f' μX' ca cb := by
    intro kx f' q1 q2
    refine yA_istore (pc := 1599) (L' := zLoc (zi I) (.int kx) .null) dL_law_1599 (by decide) rfl ?_
    refine yA_aload_n (pc := 1601) dL_law_1601 rfl ?_
    refine L_arg (pc := 1602) (k := 1) hI hl (by decide) dL_law_1602 dL_law_1603 dL_law_1605 (by decide) dL_law_1606 dL_law_1607 ?_
    refine L_ref (pc := 1608) (As := [.int (sc (I + 1))]) (st := []) kvL_215 (t9_best (sc (I + 1)) μM) hr' (by decide) rfl rfl (fun q e => by cases e) (fun q e => by cases e) (fun w hw => absurd hw List.not_mem_nil) (by decide) dL_law_1608 ?_
    exact L_tail tl_best q1 q2 (k f' μX' μM' hi)
  refine yA_aload_n (pc := 1588) dL_law_1588 rfl ?_
  refine L_arg (pc := 1589) (k := 1) hI hl (by decide) dL_law_1589 dL_law_1590 dL_law_1592 (by decide) dL_law_1593 dL_law_1594 ?_
  refine yA_aload_n (pc := 1595) dL_law_1595 rfl ?_
  rcases he with rfl | he
  · exact L_wrap (pc := 1596) kwL_213 (tw_best hr) (by decide) rfl rfl (Or.inl rfl) (by omega) (by omega) dL_law_1596 (T 0 _ (h0.trans (by decide)) (fun _ => hv rfl))
  · rcases cI_cases he with rfl
    · exact L_wrap (pc := 1596) kwL_213 (tw_best_x1 hr) (by decide) rfl rfl (Or.inl rfl) (by omega) (by omega) dL_law_1596 (T 1 _ (h0.trans (by decide)) (fun q => absurd q (by decide)))
theorem tl_run : zTl 1691 := ⟨dL_law_1691, dL_law_1693, dL_law_1694, dL_law_1697, dL_law_1699, dL_law_1704, dL_law_1706, dL_law_1709, dL_law_1710, dL_law_1711, dL_law_1712, dL_law_1714, dL_law_1715, dL_law_1716, 964, dL_law_1721, by decide⟩
theorem C_run {len I : Nat} {sc : Nat → Int32} {g : Bool} {f : Nat → Int32} {μX μM : zMem} {ca cb : Nat} (hI : I + 7 ≤ len) (hl : len ≤ 3584) (h : zInv μX μM) (k : ∀ (f' : Nat → Int32) (μX' μM' : zMem), zInv μX' μM' → zLaw len sc 2685 (zLoc (zi I) .null .null) [] g μM' f' μX' ca cb) : zLaw len sc 1644 (zLoc (zi I) .null .null) [] g μM f μX (ca + 1) (cb + 6) := by
  obtain ⟨e, v, μX', w, μM', hr, hr', h0, hv, he, hi⟩ := P_run (x := sc (I + 1)) (y := sc (I + 2)) (z := sc (I + 3)) h
  have T : ∀ (kx : Int32) (f' : Nat → Int32), μM' 0 0 = kx → (kx = 0 → f' 0 = w) → zLaw len sc 1667 (zLoc (zi I) .null .null) [.int kx] g μM f' μX' ca cb := by
    intro kx f' q1 q2
    refine yA_istore (pc := 1667) (L' := zLoc (zi I) (.int kx) .null) dL_law_1667 (by decide) rfl ?_
    refine yA_aload_n (pc := 1669) dL_law_1669 rfl ?_
    refine L_arg (pc := 1670) (k := 1) hI hl (by decide) dL_law_1670 dL_law_1671 dL_law_1673 (by decide) dL_law_1674 dL_law_1675 ?_
    refine L_arg (pc := 1676) (k := 2) hI hl (by decide) dL_law_1676 dL_law_1677 dL_law_1679 (by decide) dL_law_1680 dL_law_1681 ?_
    refine L_arg (pc := 1682) (k := 3) hI hl (by decide) dL_law_1682 dL_law_1683 dL_law_1685 (by decide) dL_law_1686 dL_law_1687 ?_
    refine L_ref (pc := 1688) (As := [.int (sc (I + 1)), .int (sc (I + 2)), .int (sc (I + 3))]) (st := []) kvL_218 (t9_run (sc (I + 1)) (sc (I + 2)) (sc (I + 3)) μM) hr' (by decide) rfl rfl (fun q e => by cases e) (fun q e => by cases e) (fun w hw => absurd hw List.not_mem_nil) (by decide) dL_law_1688 ?_
    exact L_tail tl_run q1 q2 (k f' μX' μM' hi)
  refine yA_aload_n (pc := 1644) dL_law_1644 rfl ?_
  refine L_arg (pc := 1645) (k := 1) hI hl (by decide) dL_law_1645 dL_law_1646 dL_law_1648 (by decide) dL_law_1649 dL_law_1650 ?_
  refine L_arg (pc := 1651) (k := 2) hI hl (by decide) dL_law_1651 dL_law_1652 dL_law_1654 (by decide) dL_law_1655 dL_law_1656 ?_
  refine L_arg (pc := 1657) (k := 3) hI hl (by decide) dL_law_1657 dL_law_1658 dL_law_1660 (by decide) dL_law_1661 dL_law_1662 ?_
  refine yA_aload_n (pc := 1663) dL_law_1663 rfl ?_
  rcases he with rfl | he
  · exact L_wrap (pc := 1664) kwL_216 (tw_run hr) (by decide) rfl rfl (Or.inl rfl) (by omega) (by omega) dL_law_1664 (T 0 _ (h0.trans (by decide)) (fun _ => hv rfl))
  · rcases cI_cases he with rfl
    · exact L_wrap (pc := 1664) kwL_216 (tw_run_x1 hr) (by decide) rfl rfl (Or.inl rfl) (by omega) (by omega) dL_law_1664 (T 1 _ (h0.trans (by decide)) (fun q => absurd q (by decide)))
theorem tl_lot : zTl 1783 := ⟨dL_law_1783, dL_law_1785, dL_law_1786, dL_law_1789, dL_law_1791, dL_law_1796, dL_law_1798, dL_law_1801, dL_law_1802, dL_law_1803, dL_law_1804, dL_law_1806, dL_law_1807, dL_law_1808, 872, dL_law_1813, by decide⟩
theorem C_lot {len I : Nat} {sc : Nat → Int32} {g : Bool} {f : Nat → Int32} {μX μM : zMem} {ca cb : Nat} (hI : I + 7 ≤ len) (hl : len ≤ 3584) (h : zInv μX μM) (k : ∀ (f' : Nat → Int32) (μX' μM' : zMem), zInv μX' μM' → zLaw len sc 2685 (zLoc (zi I) .null .null) [] g μM' f' μX' ca cb) : zLaw len sc 1724 (zLoc (zi I) .null .null) [] g μM f μX (ca + 1) (cb + 6) := by
  obtain ⟨e, v, μX', w, μM', hr, hr', h0, hv, he, hi⟩ := P_lot (x := sc (I + 1)) (y := sc (I + 2)) (z := sc (I + 3)) (u := sc (I + 4)) h
  have T : ∀ (kx : Int32) (f' : Nat → Int32), μM' 0 0 = kx → (kx = 0 → f' 0 = w) → zLaw len sc 1753 (zLoc (zi I) .null .null) [.int kx] g μM f' μX' ca cb := by
    intro kx f' q1 q2
    refine yA_istore (pc := 1753) (L' := zLoc (zi I) (.int kx) .null) dL_law_1753 (by decide) rfl ?_
    refine yA_aload_n (pc := 1755) dL_law_1755 rfl ?_
    refine L_arg (pc := 1756) (k := 1) hI hl (by decide) dL_law_1756 dL_law_1757 dL_law_1759 (by decide) dL_law_1760 dL_law_1761 ?_
    refine L_arg (pc := 1762) (k := 2) hI hl (by decide) dL_law_1762 dL_law_1763 dL_law_1765 (by decide) dL_law_1766 dL_law_1767 ?_
    refine L_arg (pc := 1768) (k := 3) hI hl (by decide) dL_law_1768 dL_law_1769 dL_law_1771 (by decide) dL_law_1772 dL_law_1773 ?_
    refine L_arg (pc := 1774) (k := 4) hI hl (by decide) dL_law_1774 dL_law_1775 dL_law_1777 (by decide) dL_law_1778 dL_law_1779 ?_
    refine L_ref (pc := 1780) (As := [.int (sc (I + 1)), .int (sc (I + 2)), .int (sc (I + 3)), .int (sc (I + 4))]) (st := []) kvL_221 (t9_lot (sc (I + 1)) (sc (I + 2)) (sc (I + 3)) (sc (I + 4)) μM) hr' (by decide) rfl rfl (fun q e => by cases e) (fun q e => by cases e) (fun w hw => absurd hw List.not_mem_nil) (by decide) dL_law_1780 ?_
    exact L_tail tl_lot q1 q2 (k f' μX' μM' hi)
  refine yA_aload_n (pc := 1724) dL_law_1724 rfl ?_
  refine L_arg (pc := 1725) (k := 1) hI hl (by decide) dL_law_1725 dL_law_1726 dL_law_1728 (by decide) dL_law_1729 dL_law_1730 ?_
  refine L_arg (pc := 1731) (k := 2) hI hl (by decide) dL_law_1731 dL_law_1732 dL_law_1734 (by decide) dL_law_1735 dL_law_1736 ?_
  refine L_arg (pc := 1737) (k := 3) hI hl (by decide) dL_law_1737 dL_law_1738 dL_law_1740 (by decide) dL_law_1741 dL_law_1742 ?_
  refine L_arg (pc := 1743) (k := 4) hI hl (by decide) dL_law_1743 dL_law_1744 dL_law_1746 (by decide) dL_law_1747 dL_law_1748 ?_
  refine yA_aload_n (pc := 1749) dL_law_1749 rfl ?_
  rcases he with rfl | he
  · exact L_wrap (pc := 1750) kwL_219 (tw_lot hr) (by decide) rfl rfl (Or.inl rfl) (by omega) (by omega) dL_law_1750 (T 0 _ (h0.trans (by decide)) (fun _ => hv rfl))
  · rcases cI_cases he with rfl
    · exact L_wrap (pc := 1750) kwL_219 (tw_lot_x1 hr) (by decide) rfl rfl (Or.inl rfl) (by omega) (by omega) dL_law_1750 (T 1 _ (h0.trans (by decide)) (fun q => absurd q (by decide)))
theorem tl_rule : zTl 1839 := ⟨dL_law_1839, dL_law_1841, dL_law_1842, dL_law_1845, dL_law_1847, dL_law_1852, dL_law_1854, dL_law_1857, dL_law_1858, dL_law_1859, dL_law_1860, dL_law_1862, dL_law_1863, dL_law_1864, 816, dL_law_1869, by decide⟩
theorem C_rule {len I : Nat} {sc : Nat → Int32} {g : Bool} {f : Nat → Int32} {μX μM : zMem} {ca cb : Nat} (hI : I + 7 ≤ len) (hl : len ≤ 3584) (h : zInv μX μM) (k : ∀ (f' : Nat → Int32) (μX' μM' : zMem), zInv μX' μM' → zLaw len sc 2685 (zLoc (zi I) .null .null) [] g μM' f' μX' ca cb) : zLaw len sc 1816 (zLoc (zi I) .null .null) [] g μM f μX (ca + 1) (cb + 6) := by
  obtain ⟨e, v, μX', w, μM', hr, hr', h0, hv, he, hi⟩ := P_rule (x := sc (I + 1)) h
  have T : ∀ (kx : Int32) (f' : Nat → Int32), μM' 0 0 = kx → (kx = 0 → f' 0 = w) → zLaw len sc 1827 (zLoc (zi I) .null .null) [.int kx] g μM f' μX' ca cb := by
    intro kx f' q1 q2
    refine yA_istore (pc := 1827) (L' := zLoc (zi I) (.int kx) .null) dL_law_1827 (by decide) rfl ?_
    refine yA_aload_n (pc := 1829) dL_law_1829 rfl ?_
    refine L_arg (pc := 1830) (k := 1) hI hl (by decide) dL_law_1830 dL_law_1831 dL_law_1833 (by decide) dL_law_1834 dL_law_1835 ?_
    refine L_ref (pc := 1836) (As := [.int (sc (I + 1))]) (st := []) kvL_224 (t9_rule (sc (I + 1)) μM) hr' (by decide) rfl rfl (fun q e => by cases e) (fun q e => by cases e) (fun w hw => absurd hw List.not_mem_nil) (by decide) dL_law_1836 ?_
    exact L_tail tl_rule q1 q2 (k f' μX' μM' hi)
  refine yA_aload_n (pc := 1816) dL_law_1816 rfl ?_
  refine L_arg (pc := 1817) (k := 1) hI hl (by decide) dL_law_1817 dL_law_1818 dL_law_1820 (by decide) dL_law_1821 dL_law_1822 ?_
  refine yA_aload_n (pc := 1823) dL_law_1823 rfl ?_
  rcases he with rfl | he
  · exact L_wrap (pc := 1824) kwL_222 (tw_rule hr) (by decide) rfl rfl (Or.inl rfl) (by omega) (by omega) dL_law_1824 (T 0 _ (h0.trans (by decide)) (fun _ => hv rfl))
  · rcases cI_cases he with rfl
    · exact L_wrap (pc := 1824) kwL_222 (tw_rule_x1 hr) (by decide) rfl rfl (Or.inl rfl) (by omega) (by omega) dL_law_1824 (T 1 _ (h0.trans (by decide)) (fun q => absurd q (by decide)))
theorem tl_pairs : zTl 1987 := ⟨dL_law_1987, dL_law_1989, dL_law_1990, dL_law_1993, dL_law_1995, dL_law_2000, dL_law_2002, dL_law_2005, dL_law_2006, dL_law_2007, dL_law_2008, dL_law_2010, dL_law_2011, dL_law_2012, 668, dL_law_2017, by decide⟩
theorem C_pairs {len I : Nat} {sc : Nat → Int32} {g : Bool} {f : Nat → Int32} {μX μM : zMem} {ca cb : Nat} (hI : I + 7 ≤ len) (hl : len ≤ 3584) (h : zInv μX μM) (k : ∀ (f' : Nat → Int32) (μX' μM' : zMem), zInv μX' μM' → zLaw len sc 2685 (zLoc (zi I) .null .null) [] g μM' f' μX' ca cb) : zLaw len sc 1952 (zLoc (zi I) .null .null) [] g μM f μX (ca + 1) (cb + 6) := by
  obtain ⟨e, v, μX', w, μM', hr, hr', h0, hv, he, hi⟩ := P_pairs (x := sc (I + 1)) (y := sc (I + 2)) h
  have T : ∀ (kx : Int32) (f' : Nat → Int32), μM' 0 0 = kx → (kx = 0 → f' 0 = w) → zLaw len sc 1969 (zLoc (zi I) .null .null) [.int kx] g μM f' μX' ca cb := by
    intro kx f' q1 q2
    refine yA_istore (pc := 1969) (L' := zLoc (zi I) (.int kx) .null) dL_law_1969 (by decide) rfl ?_
    refine yA_aload_n (pc := 1971) dL_law_1971 rfl ?_
    refine L_arg (pc := 1972) (k := 1) hI hl (by decide) dL_law_1972 dL_law_1973 dL_law_1975 (by decide) dL_law_1976 dL_law_1977 ?_
    refine L_arg (pc := 1978) (k := 2) hI hl (by decide) dL_law_1978 dL_law_1979 dL_law_1981 (by decide) dL_law_1982 dL_law_1983 ?_
    refine L_ref (pc := 1984) (As := [.int (sc (I + 1)), .int (sc (I + 2))]) (st := []) kvL_230 (t9_pairs (sc (I + 1)) (sc (I + 2)) μM) hr' (by decide) rfl rfl (fun q e => by cases e) (fun q e => by cases e) (fun w hw => absurd hw List.not_mem_nil) (by decide) dL_law_1984 ?_
    exact L_tail tl_pairs q1 q2 (k f' μX' μM' hi)
  refine yA_aload_n (pc := 1952) dL_law_1952 rfl ?_
  refine L_arg (pc := 1953) (k := 1) hI hl (by decide) dL_law_1953 dL_law_1954 dL_law_1956 (by decide) dL_law_1957 dL_law_1958 ?_
  refine L_arg (pc := 1959) (k := 2) hI hl (by decide) dL_law_1959 dL_law_1960 dL_law_1962 (by decide) dL_law_1963 dL_law_1964 ?_
  refine yA_aload_n (pc := 1965) dL_law_1965 rfl ?_
  rcases he with rfl | he
  · exact L_wrap (pc := 1966) kwL_228 (tw_pairs hr) (by decide) rfl rfl (Or.inl rfl) (by omega) (by omega) dL_law_1966 (T 0 _ (h0.trans (by decide)) (fun _ => hv rfl))
  · rcases cI_cases he with rfl
    · exact L_wrap (pc := 1966) kwL_228 (tw_pairs_x1 hr) (by decide) rfl rfl (Or.inl rfl) (by omega) (by omega) dL_law_1966 (T 1 _ (h0.trans (by decide)) (fun q => absurd q (by decide)))
theorem tl_edge : zTl 2055 := ⟨dL_law_2055, dL_law_2057, dL_law_2058, dL_law_2061, dL_law_2063, dL_law_2068, dL_law_2070, dL_law_2073, dL_law_2074, dL_law_2075, dL_law_2076, dL_law_2078, dL_law_2079, dL_law_2080, 600, dL_law_2085, by decide⟩
theorem C_edge {len I : Nat} {sc : Nat → Int32} {g : Bool} {f : Nat → Int32} {μX μM : zMem} {ca cb : Nat} (hI : I + 7 ≤ len) (hl : len ≤ 3584) (h : zInv μX μM) (k : ∀ (f' : Nat → Int32) (μX' μM' : zMem), zInv μX' μM' → zLaw len sc 2685 (zLoc (zi I) .null .null) [] g μM' f' μX' ca cb) : zLaw len sc 2020 (zLoc (zi I) .null .null) [] g μM f μX (ca + 1) (cb + 6) := by
  obtain ⟨e, v, μX', w, μM', hr, hr', h0, hv, he, hi⟩ := P_edge (x := sc (I + 1)) (y := sc (I + 2)) h
  have T : ∀ (kx : Int32) (f' : Nat → Int32), μM' 0 0 = kx → (kx = 0 → f' 0 = w) → zLaw len sc 2037 (zLoc (zi I) .null .null) [.int kx] g μM f' μX' ca cb := by
    intro kx f' q1 q2
    refine yA_istore (pc := 2037) (L' := zLoc (zi I) (.int kx) .null) dL_law_2037 (by decide) rfl ?_
    refine yA_aload_n (pc := 2039) dL_law_2039 rfl ?_
    refine L_arg (pc := 2040) (k := 1) hI hl (by decide) dL_law_2040 dL_law_2041 dL_law_2043 (by decide) dL_law_2044 dL_law_2045 ?_
    refine L_arg (pc := 2046) (k := 2) hI hl (by decide) dL_law_2046 dL_law_2047 dL_law_2049 (by decide) dL_law_2050 dL_law_2051 ?_
    refine L_ref (pc := 2052) (As := [.int (sc (I + 1)), .int (sc (I + 2))]) (st := []) kvL_233 (t9_edge (sc (I + 1)) (sc (I + 2)) μM) hr' (by decide) rfl rfl (fun q e => by cases e) (fun q e => by cases e) (fun w hw => absurd hw List.not_mem_nil) (by decide) dL_law_2052 ?_
    exact L_tail tl_edge q1 q2 (k f' μX' μM' hi)
  refine yA_aload_n (pc := 2020) dL_law_2020 rfl ?_
  refine L_arg (pc := 2021) (k := 1) hI hl (by decide) dL_law_2021 dL_law_2022 dL_law_2024 (by decide) dL_law_2025 dL_law_2026 ?_
  refine L_arg (pc := 2027) (k := 2) hI hl (by decide) dL_law_2027 dL_law_2028 dL_law_2030 (by decide) dL_law_2031 dL_law_2032 ?_
  refine yA_aload_n (pc := 2033) dL_law_2033 rfl ?_
  rcases he with rfl | he
  · exact L_wrap (pc := 2034) kwL_231 (tw_edge hr) (by decide) rfl rfl (Or.inl rfl) (by omega) (by omega) dL_law_2034 (T 0 _ (h0.trans (by decide)) (fun _ => hv rfl))
  · rcases cI_cases he with rfl
    · exact L_wrap (pc := 2034) kwL_231 (tw_edge_x1 hr) (by decide) rfl rfl (Or.inl rfl) (by omega) (by omega) dL_law_2034 (T 1 _ (h0.trans (by decide)) (fun q => absurd q (by decide)))
theorem tl_rest : zTl 2173 := ⟨dL_law_2173, dL_law_2175, dL_law_2176, dL_law_2179, dL_law_2181, dL_law_2186, dL_law_2188, dL_law_2191, dL_law_2192, dL_law_2193, dL_law_2194, dL_law_2196, dL_law_2197, dL_law_2198, 482, dL_law_2203, by decide⟩
theorem C_rest {len I : Nat} {sc : Nat → Int32} {g : Bool} {f : Nat → Int32} {μX μM : zMem} {ca cb : Nat} (hI : I + 7 ≤ len) (hl : len ≤ 3584) (h : zInv μX μM) (k : ∀ (f' : Nat → Int32) (μX' μM' : zMem), zInv μX' μM' → zLaw len sc 2685 (zLoc (zi I) .null .null) [] g μM' f' μX' ca cb) : zLaw len sc 2088 (zLoc (zi I) .null .null) [] g μM f μX (ca + 1) (cb + 6) := by
  obtain ⟨e, v, μX', w, μM', hr, hr', h0, hv, he, hi⟩ := P_rest (x := sc (I + 1)) (y := sc (I + 2)) (z := sc (I + 3)) (u := sc (I + 4)) (v := sc (I + 5)) (w := sc (I + 6)) h
  have T : ∀ (kx : Int32) (f' : Nat → Int32), μM' 0 0 = kx → (kx = 0 → f' 0 = w) → zLaw len sc 2130 (zLoc (zi I) .null .null) [.int kx] g μM f' μX' ca cb := by
    intro kx f' q1 q2
    refine yA_istore (pc := 2130) (L' := zLoc (zi I) (.int kx) .null) dL_law_2130 (by decide) rfl ?_
    refine yA_aload_n (pc := 2132) dL_law_2132 rfl ?_
    refine L_arg (pc := 2133) (k := 1) hI hl (by decide) dL_law_2133 dL_law_2134 dL_law_2136 (by decide) dL_law_2137 dL_law_2138 ?_
    refine L_arg (pc := 2139) (k := 2) hI hl (by decide) dL_law_2139 dL_law_2140 dL_law_2142 (by decide) dL_law_2143 dL_law_2144 ?_
    refine L_arg (pc := 2145) (k := 3) hI hl (by decide) dL_law_2145 dL_law_2146 dL_law_2148 (by decide) dL_law_2149 dL_law_2150 ?_
    refine L_arg (pc := 2151) (k := 4) hI hl (by decide) dL_law_2151 dL_law_2152 dL_law_2154 (by decide) dL_law_2155 dL_law_2156 ?_
    refine L_arg (pc := 2157) (k := 5) hI hl (by decide) dL_law_2157 dL_law_2158 dL_law_2160 (by decide) dL_law_2161 dL_law_2162 ?_
    refine L_arg6 (pc := 2163) (k := 6) hI hl (by decide) dL_law_2163 dL_law_2164 dL_law_2166 (by decide) dL_law_2168 dL_law_2169 ?_
    refine L_ref (pc := 2170) (As := [.int (sc (I + 1)), .int (sc (I + 2)), .int (sc (I + 3)), .int (sc (I + 4)), .int (sc (I + 5)), .int (sc (I + 6))]) (st := []) kvL_237 (t9_rest (sc (I + 1)) (sc (I + 2)) (sc (I + 3)) (sc (I + 4)) (sc (I + 5)) (sc (I + 6)) μM) hr' (by decide) rfl rfl (fun q e => by cases e) (fun q e => by cases e) (fun w hw => absurd hw List.not_mem_nil) (by decide) dL_law_2170 ?_
    exact L_tail tl_rest q1 q2 (k f' μX' μM' hi)
  refine yA_aload_n (pc := 2088) dL_law_2088 rfl ?_
  refine L_arg (pc := 2089) (k := 1) hI hl (by decide) dL_law_2089 dL_law_2090 dL_law_2092 (by decide) dL_law_2093 dL_law_2094 ?_
  refine L_arg (pc := 2095) (k := 2) hI hl (by decide) dL_law_2095 dL_law_2096 dL_law_2098 (by decide) dL_law_2099 dL_law_2100 ?_
  refine L_arg (pc := 2101) (k := 3) hI hl (by decide) dL_law_2101 dL_law_2102 dL_law_2104 (by decide) dL_law_2105 dL_law_2106 ?_
  refine L_arg (pc := 2107) (k := 4) hI hl (by decide) dL_law_2107 dL_law_2108 dL_law_2110 (by decide) dL_law_2111 dL_law_2112 ?_
  refine L_arg (pc := 2113) (k := 5) hI hl (by decide) dL_law_2113 dL_law_2114 dL_law_2116 (by decide) dL_law_2117 dL_law_2118 ?_
  refine L_arg6 (pc := 2119) (k := 6) hI hl (by decide) dL_law_2119 dL_law_2120 dL_law_2122 (by decide) dL_law_2124 dL_law_2125 ?_
  refine yA_aload_n (pc := 2126) dL_law_2126 rfl ?_
  rcases he with rfl | he
  · exact L_wrap (pc := 2127) kwL_234 (tw_rest hr) (by decide) rfl rfl (Or.inl rfl) (by omega) (by omega) dL_law_2127 (T 0 _ (h0.trans (by decide)) (fun _ => hv rfl))
  · rcases cNI_cases he with rfl | rfl
    · exact L_wrap (pc := 2127) kwL_234 (tw_rest_x2 hr) (by decide) rfl rfl (Or.inl rfl) (by omega) (by omega) dL_law_2127 (T 1 _ (h0.trans (by decide)) (fun q => absurd q (by decide)))
    · exact L_wrap (pc := 2127) kwL_234 (tw_rest_x1 hr) (by decide) rfl rfl (Or.inl rfl) (by omega) (by omega) dL_law_2127 (T 2 _ (h0.trans (by decide)) (fun q => absurd q (by decide)))
theorem tl_once : zTl 2229 := ⟨dL_law_2229, dL_law_2231, dL_law_2232, dL_law_2235, dL_law_2237, dL_law_2242, dL_law_2244, dL_law_2247, dL_law_2248, dL_law_2249, dL_law_2250, dL_law_2252, dL_law_2253, dL_law_2254, 426, dL_law_2259, by decide⟩
theorem C_once {len I : Nat} {sc : Nat → Int32} {g : Bool} {f : Nat → Int32} {μX μM : zMem} {ca cb : Nat} (hI : I + 7 ≤ len) (hl : len ≤ 3584) (h : zInv μX μM) (k : ∀ (f' : Nat → Int32) (μX' μM' : zMem), zInv μX' μM' → zLaw len sc 2685 (zLoc (zi I) .null .null) [] g μM' f' μX' ca cb) : zLaw len sc 2206 (zLoc (zi I) .null .null) [] g μM f μX (ca + 1) (cb + 6) := by
  obtain ⟨e, v, μX', w, μM', hr, hr', h0, hv, he, hi⟩ := P_once (x := sc (I + 1)) h
  have T : ∀ (kx : Int32) (f' : Nat → Int32), μM' 0 0 = kx → (kx = 0 → f' 0 = w) → zLaw len sc 2217 (zLoc (zi I) .null .null) [.int kx] g μM f' μX' ca cb := by
    intro kx f' q1 q2
    refine yA_istore (pc := 2217) (L' := zLoc (zi I) (.int kx) .null) dL_law_2217 (by decide) rfl ?_
    refine yA_aload_n (pc := 2219) dL_law_2219 rfl ?_
    refine L_arg (pc := 2220) (k := 1) hI hl (by decide) dL_law_2220 dL_law_2221 dL_law_2223 (by decide) dL_law_2224 dL_law_2225 ?_
    refine L_ref (pc := 2226) (As := [.int (sc (I + 1))]) (st := []) kvL_240 (t9_once (sc (I + 1)) μM) hr' (by decide) rfl rfl (fun q e => by cases e) (fun q e => by cases e) (fun w hw => absurd hw List.not_mem_nil) (by decide) dL_law_2226 ?_
    exact L_tail tl_once q1 q2 (k f' μX' μM' hi)
  refine yA_aload_n (pc := 2206) dL_law_2206 rfl ?_
  refine L_arg (pc := 2207) (k := 1) hI hl (by decide) dL_law_2207 dL_law_2208 dL_law_2210 (by decide) dL_law_2211 dL_law_2212 ?_
  refine yA_aload_n (pc := 2213) dL_law_2213 rfl ?_
  rcases he with rfl | he
  · exact L_wrap (pc := 2214) kwL_238 (tw_once hr) (by decide) rfl rfl (Or.inl rfl) (by omega) (by omega) dL_law_2214 (T 0 _ (h0.trans (by decide)) (fun _ => hv rfl))
  · rcases cI_cases he with rfl
    · exact L_wrap (pc := 2214) kwL_238 (tw_once_x1 hr) (by decide) rfl rfl (Or.inl rfl) (by omega) (by omega) dL_law_2214 (T 1 _ (h0.trans (by decide)) (fun q => absurd q (by decide)))
theorem tl_calm : zTl 2297 := ⟨dL_law_2297, dL_law_2299, dL_law_2300, dL_law_2303, dL_law_2305, dL_law_2310, dL_law_2312, dL_law_2315, dL_law_2316, dL_law_2317, dL_law_2318, dL_law_2320, dL_law_2321, dL_law_2322, 358, dL_law_2327, by decide⟩
theorem C_calm {len I : Nat} {sc : Nat → Int32} {g : Bool} {f : Nat → Int32} {μX μM : zMem} {ca cb : Nat} (hI : I + 7 ≤ len) (hl : len ≤ 3584) (h : zInv μX μM) (k : ∀ (f' : Nat → Int32) (μX' μM' : zMem), zInv μX' μM' → zLaw len sc 2685 (zLoc (zi I) .null .null) [] g μM' f' μX' ca cb) : zLaw len sc 2262 (zLoc (zi I) .null .null) [] g μM f μX (ca + 1) (cb + 6) := by
  obtain ⟨e, v, μX', w, μM', hr, hr', h0, hv, he, hi⟩ := P_calm (x := sc (I + 1)) (y := sc (I + 2)) h
  have T : ∀ (kx : Int32) (f' : Nat → Int32), μM' 0 0 = kx → (kx = 0 → f' 0 = w) → zLaw len sc 2279 (zLoc (zi I) .null .null) [.int kx] g μM f' μX' ca cb := by
    intro kx f' q1 q2
    refine yA_istore (pc := 2279) (L' := zLoc (zi I) (.int kx) .null) dL_law_2279 (by decide) rfl ?_
    refine yA_aload_n (pc := 2281) dL_law_2281 rfl ?_
    refine L_arg (pc := 2282) (k := 1) hI hl (by decide) dL_law_2282 dL_law_2283 dL_law_2285 (by decide) dL_law_2286 dL_law_2287 ?_
    refine L_arg (pc := 2288) (k := 2) hI hl (by decide) dL_law_2288 dL_law_2289 dL_law_2291 (by decide) dL_law_2292 dL_law_2293 ?_
    refine L_ref (pc := 2294) (As := [.int (sc (I + 1)), .int (sc (I + 2))]) (st := []) kvL_243 (t9_calm (sc (I + 1)) (sc (I + 2)) μM) hr' (by decide) rfl rfl (fun q e => by cases e) (fun q e => by cases e) (fun w hw => absurd hw List.not_mem_nil) (by decide) dL_law_2294 ?_
    exact L_tail tl_calm q1 q2 (k f' μX' μM' hi)
  refine yA_aload_n (pc := 2262) dL_law_2262 rfl ?_
  refine L_arg (pc := 2263) (k := 1) hI hl (by decide) dL_law_2263 dL_law_2264 dL_law_2266 (by decide) dL_law_2267 dL_law_2268 ?_
  refine L_arg (pc := 2269) (k := 2) hI hl (by decide) dL_law_2269 dL_law_2270 dL_law_2272 (by decide) dL_law_2273 dL_law_2274 ?_
  refine yA_aload_n (pc := 2275) dL_law_2275 rfl ?_
  rcases he with rfl | he
  · exact L_wrap (pc := 2276) kwL_241 (tw_calm hr) (by decide) rfl rfl (Or.inl rfl) (by omega) (by omega) dL_law_2276 (T 0 _ (h0.trans (by decide)) (fun _ => hv rfl))
  · rcases cI_cases he with rfl
    · exact L_wrap (pc := 2276) kwL_241 (tw_calm_x1 hr) (by decide) rfl rfl (Or.inl rfl) (by omega) (by omega) dL_law_2276 (T 1 _ (h0.trans (by decide)) (fun q => absurd q (by decide)))
theorem tl_family : zTl 2353 := ⟨dL_law_2353, dL_law_2355, dL_law_2356, dL_law_2359, dL_law_2361, dL_law_2366, dL_law_2368, dL_law_2371, dL_law_2372, dL_law_2373, dL_law_2374, dL_law_2376, dL_law_2377, dL_law_2378, 302, dL_law_2383, by decide⟩
theorem C_family {len I : Nat} {sc : Nat → Int32} {g : Bool} {f : Nat → Int32} {μX μM : zMem} {ca cb : Nat} (hI : I + 7 ≤ len) (hl : len ≤ 3584) (h : zInv μX μM) (k : ∀ (f' : Nat → Int32) (μX' μM' : zMem), zInv μX' μM' → zLaw len sc 2685 (zLoc (zi I) .null .null) [] g μM' f' μX' ca cb) : zLaw len sc 2330 (zLoc (zi I) .null .null) [] g μM f μX (ca + 1) (cb + 6) := by
  obtain ⟨e, v, μX', w, μM', hr, hr', h0, hv, he, hi⟩ := P_family (x := sc (I + 1)) h
  have T : ∀ (kx : Int32) (f' : Nat → Int32), μM' 0 0 = kx → (kx = 0 → f' 0 = w) → zLaw len sc 2341 (zLoc (zi I) .null .null) [.int kx] g μM f' μX' ca cb := by
    intro kx f' q1 q2
    refine yA_istore (pc := 2341) (L' := zLoc (zi I) (.int kx) .null) dL_law_2341 (by decide) rfl ?_
    refine yA_aload_n (pc := 2343) dL_law_2343 rfl ?_
    refine L_arg (pc := 2344) (k := 1) hI hl (by decide) dL_law_2344 dL_law_2345 dL_law_2347 (by decide) dL_law_2348 dL_law_2349 ?_
    refine L_ref (pc := 2350) (As := [.int (sc (I + 1))]) (st := []) kvL_246 (t9_family (sc (I + 1)) μM) hr' (by decide) rfl rfl (fun q e => by cases e) (fun q e => by cases e) (fun w hw => absurd hw List.not_mem_nil) (by decide) dL_law_2350 ?_
    exact L_tail tl_family q1 q2 (k f' μX' μM' hi)
  refine yA_aload_n (pc := 2330) dL_law_2330 rfl ?_
  refine L_arg (pc := 2331) (k := 1) hI hl (by decide) dL_law_2331 dL_law_2332 dL_law_2334 (by decide) dL_law_2335 dL_law_2336 ?_
  refine yA_aload_n (pc := 2337) dL_law_2337 rfl ?_
  rcases he with rfl | he
  · exact L_wrap (pc := 2338) kwL_244 (tw_family hr) (by decide) rfl rfl (Or.inl rfl) (by omega) (by omega) dL_law_2338 (T 0 _ (h0.trans (by decide)) (fun _ => hv rfl))
  · rcases cI_cases he with rfl
    · exact L_wrap (pc := 2338) kwL_244 (tw_family_x1 hr) (by decide) rfl rfl (Or.inl rfl) (by omega) (by omega) dL_law_2338 (T 1 _ (h0.trans (by decide)) (fun q => absurd q (by decide)))
theorem tl_starved : zTl 2409 := ⟨dL_law_2409, dL_law_2411, dL_law_2412, dL_law_2415, dL_law_2417, dL_law_2422, dL_law_2424, dL_law_2427, dL_law_2428, dL_law_2429, dL_law_2430, dL_law_2432, dL_law_2433, dL_law_2434, 246, dL_law_2439, by decide⟩
theorem C_starved {len I : Nat} {sc : Nat → Int32} {g : Bool} {f : Nat → Int32} {μX μM : zMem} {ca cb : Nat} (hI : I + 7 ≤ len) (hl : len ≤ 3584) (h : zInv μX μM) (k : ∀ (f' : Nat → Int32) (μX' μM' : zMem), zInv μX' μM' → zLaw len sc 2685 (zLoc (zi I) .null .null) [] g μM' f' μX' ca cb) : zLaw len sc 2386 (zLoc (zi I) .null .null) [] g μM f μX (ca + 1) (cb + 6) := by
  obtain ⟨e, v, μX', w, μM', hr, hr', h0, hv, he, hi⟩ := P_starved (x := sc (I + 1)) h
  have T : ∀ (kx : Int32) (f' : Nat → Int32), μM' 0 0 = kx → (kx = 0 → f' 0 = w) → zLaw len sc 2397 (zLoc (zi I) .null .null) [.int kx] g μM f' μX' ca cb := by
    intro kx f' q1 q2
    refine yA_istore (pc := 2397) (L' := zLoc (zi I) (.int kx) .null) dL_law_2397 (by decide) rfl ?_
    refine yA_aload_n (pc := 2399) dL_law_2399 rfl ?_
    refine L_arg (pc := 2400) (k := 1) hI hl (by decide) dL_law_2400 dL_law_2401 dL_law_2403 (by decide) dL_law_2404 dL_law_2405 ?_
    refine L_ref (pc := 2406) (As := [.int (sc (I + 1))]) (st := []) kvL_249 (t9_starved (sc (I + 1)) μM) hr' (by decide) rfl rfl (fun q e => by cases e) (fun q e => by cases e) (fun w hw => absurd hw List.not_mem_nil) (by decide) dL_law_2406 ?_
    exact L_tail tl_starved q1 q2 (k f' μX' μM' hi)
  refine yA_aload_n (pc := 2386) dL_law_2386 rfl ?_
  refine L_arg (pc := 2387) (k := 1) hI hl (by decide) dL_law_2387 dL_law_2388 dL_law_2390 (by decide) dL_law_2391 dL_law_2392 ?_
  refine yA_aload_n (pc := 2393) dL_law_2393 rfl ?_
  rcases he with rfl | he
  · exact L_wrap (pc := 2394) kwL_247 (tw_starved hr) (by decide) rfl rfl (Or.inl rfl) (by omega) (by omega) dL_law_2394 (T 0 _ (h0.trans (by decide)) (fun _ => hv rfl))
  · rcases cI_cases he with rfl
    · exact L_wrap (pc := 2394) kwL_247 (tw_starved_x1 hr) (by decide) rfl rfl (Or.inl rfl) (by omega) (by omega) dL_law_2394 (T 1 _ (h0.trans (by decide)) (fun q => absurd q (by decide)))
theorem tl_slack : zTl 2465 := ⟨dL_law_2465, dL_law_2467, dL_law_2468, dL_law_2471, dL_law_2473, dL_law_2478, dL_law_2480, dL_law_2483, dL_law_2484, dL_law_2485, dL_law_2486, dL_law_2488, dL_law_2489, dL_law_2490, 190, dL_law_2495, by decide⟩
theorem C_slack {len I : Nat} {sc : Nat → Int32} {g : Bool} {f : Nat → Int32} {μX μM : zMem} {ca cb : Nat} (hI : I + 7 ≤ len) (hl : len ≤ 3584) (h : zInv μX μM) (k : ∀ (f' : Nat → Int32) (μX' μM' : zMem), zInv μX' μM' → zLaw len sc 2685 (zLoc (zi I) .null .null) [] g μM' f' μX' ca cb) : zLaw len sc 2442 (zLoc (zi I) .null .null) [] g μM f μX (ca + 1) (cb + 6) := by
  obtain ⟨e, v, μX', w, μM', hr, hr', h0, hv, he, hi⟩ := P_slack (x := sc (I + 1)) h
  have T : ∀ (kx : Int32) (f' : Nat → Int32), μM' 0 0 = kx → (kx = 0 → f' 0 = w) → zLaw len sc 2453 (zLoc (zi I) .null .null) [.int kx] g μM f' μX' ca cb := by
    intro kx f' q1 q2
    refine yA_istore (pc := 2453) (L' := zLoc (zi I) (.int kx) .null) dL_law_2453 (by decide) rfl ?_
    refine yA_aload_n (pc := 2455) dL_law_2455 rfl ?_
    refine L_arg (pc := 2456) (k := 1) hI hl (by decide) dL_law_2456 dL_law_2457 dL_law_2459 (by decide) dL_law_2460 dL_law_2461 ?_
    refine L_ref (pc := 2462) (As := [.int (sc (I + 1))]) (st := []) kvL_252 (t9_slack (sc (I + 1)) μM) hr' (by decide) rfl rfl (fun q e => by cases e) (fun q e => by cases e) (fun w hw => absurd hw List.not_mem_nil) (by decide) dL_law_2462 ?_
    exact L_tail tl_slack q1 q2 (k f' μX' μM' hi)
  refine yA_aload_n (pc := 2442) dL_law_2442 rfl ?_
  refine L_arg (pc := 2443) (k := 1) hI hl (by decide) dL_law_2443 dL_law_2444 dL_law_2446 (by decide) dL_law_2447 dL_law_2448 ?_
  refine yA_aload_n (pc := 2449) dL_law_2449 rfl ?_
  rcases he with rfl | he
  · exact L_wrap (pc := 2450) kwL_250 (tw_slack hr) (by decide) rfl rfl (Or.inl rfl) (by omega) (by omega) dL_law_2450 (T 0 _ (h0.trans (by decide)) (fun _ => hv rfl))
  · rcases cI_cases he with rfl
    · exact L_wrap (pc := 2450) kwL_250 (tw_slack_x1 hr) (by decide) rfl rfl (Or.inl rfl) (by omega) (by omega) dL_law_2450 (T 1 _ (h0.trans (by decide)) (fun q => absurd q (by decide)))
theorem tl_firm : zTl 2545 := ⟨dL_law_2545, dL_law_2547, dL_law_2548, dL_law_2551, dL_law_2553, dL_law_2558, dL_law_2560, dL_law_2563, dL_law_2564, dL_law_2565, dL_law_2566, dL_law_2568, dL_law_2569, dL_law_2570, 110, dL_law_2575, by decide⟩
theorem C_firm {len I : Nat} {sc : Nat → Int32} {g : Bool} {f : Nat → Int32} {μX μM : zMem} {ca cb : Nat} (hI : I + 7 ≤ len) (hl : len ≤ 3584) (h : zInv μX μM) (k : ∀ (f' : Nat → Int32) (μX' μM' : zMem), zInv μX' μM' → zLaw len sc 2685 (zLoc (zi I) .null .null) [] g μM' f' μX' ca cb) : zLaw len sc 2498 (zLoc (zi I) .null .null) [] g μM f μX (ca + 1) (cb + 6) := by
  obtain ⟨e, v, μX', w, μM', hr, hr', h0, hv, he, hi⟩ := P_firm (x := sc (I + 1)) (y := sc (I + 2)) (z := sc (I + 3)) h
  have T : ∀ (kx : Int32) (f' : Nat → Int32), μM' 0 0 = kx → (kx = 0 → f' 0 = w) → zLaw len sc 2521 (zLoc (zi I) .null .null) [.int kx] g μM f' μX' ca cb := by
    intro kx f' q1 q2
    refine yA_istore (pc := 2521) (L' := zLoc (zi I) (.int kx) .null) dL_law_2521 (by decide) rfl ?_
    refine yA_aload_n (pc := 2523) dL_law_2523 rfl ?_
    refine L_arg (pc := 2524) (k := 1) hI hl (by decide) dL_law_2524 dL_law_2525 dL_law_2527 (by decide) dL_law_2528 dL_law_2529 ?_
    refine L_arg (pc := 2530) (k := 2) hI hl (by decide) dL_law_2530 dL_law_2531 dL_law_2533 (by decide) dL_law_2534 dL_law_2535 ?_
    refine L_arg (pc := 2536) (k := 3) hI hl (by decide) dL_law_2536 dL_law_2537 dL_law_2539 (by decide) dL_law_2540 dL_law_2541 ?_
    refine L_ref (pc := 2542) (As := [.int (sc (I + 1)), .int (sc (I + 2)), .int (sc (I + 3))]) (st := []) kvL_255 (t9_firm (sc (I + 1)) (sc (I + 2)) (sc (I + 3)) μM) hr' (by decide) rfl rfl (fun q e => by cases e) (fun q e => by cases e) (fun w hw => absurd hw List.not_mem_nil) (by decide) dL_law_2542 ?_
    exact L_tail tl_firm q1 q2 (k f' μX' μM' hi)
  refine yA_aload_n (pc := 2498) dL_law_2498 rfl ?_
  refine L_arg (pc := 2499) (k := 1) hI hl (by decide) dL_law_2499 dL_law_2500 dL_law_2502 (by decide) dL_law_2503 dL_law_2504 ?_
  refine L_arg (pc := 2505) (k := 2) hI hl (by decide) dL_law_2505 dL_law_2506 dL_law_2508 (by decide) dL_law_2509 dL_law_2510 ?_
  refine L_arg (pc := 2511) (k := 3) hI hl (by decide) dL_law_2511 dL_law_2512 dL_law_2514 (by decide) dL_law_2515 dL_law_2516 ?_
  refine yA_aload_n (pc := 2517) dL_law_2517 rfl ?_
  rcases he with rfl | he
  · exact L_wrap (pc := 2518) kwL_253 (tw_firm hr) (by decide) rfl rfl (Or.inl rfl) (by omega) (by omega) dL_law_2518 (T 0 _ (h0.trans (by decide)) (fun _ => hv rfl))
  · rcases cNI_cases he with rfl | rfl
    · exact L_wrap (pc := 2518) kwL_253 (tw_firm_x2 hr) (by decide) rfl rfl (Or.inl rfl) (by omega) (by omega) dL_law_2518 (T 1 _ (h0.trans (by decide)) (fun q => absurd q (by decide)))
    · exact L_wrap (pc := 2518) kwL_253 (tw_firm_x1 hr) (by decide) rfl rfl (Or.inl rfl) (by omega) (by omega) dL_law_2518 (T 2 _ (h0.trans (by decide)) (fun q => absurd q (by decide)))
theorem tl_twoDays : zTl 2601 := ⟨dL_law_2601, dL_law_2603, dL_law_2604, dL_law_2607, dL_law_2609, dL_law_2614, dL_law_2616, dL_law_2619, dL_law_2620, dL_law_2621, dL_law_2622, dL_law_2624, dL_law_2625, dL_law_2626, 54, dL_law_2631, by decide⟩
theorem C_twoDays {len I : Nat} {sc : Nat → Int32} {g : Bool} {f : Nat → Int32} {μX μM : zMem} {ca cb : Nat} (hI : I + 7 ≤ len) (hl : len ≤ 3584) (h : zInv μX μM) (k : ∀ (f' : Nat → Int32) (μX' μM' : zMem), zInv μX' μM' → zLaw len sc 2685 (zLoc (zi I) .null .null) [] g μM' f' μX' ca cb) : zLaw len sc 2578 (zLoc (zi I) .null .null) [] g μM f μX (ca + 1) (cb + 6) := by
  obtain ⟨e, v, μX', w, μM', hr, hr', h0, hv, he, hi⟩ := P_twoDays (x := sc (I + 1)) h
  have T : ∀ (kx : Int32) (f' : Nat → Int32), μM' 0 0 = kx → (kx = 0 → f' 0 = w) → zLaw len sc 2589 (zLoc (zi I) .null .null) [.int kx] g μM f' μX' ca cb := by
    intro kx f' q1 q2
    refine yA_istore (pc := 2589) (L' := zLoc (zi I) (.int kx) .null) dL_law_2589 (by decide) rfl ?_
    refine yA_aload_n (pc := 2591) dL_law_2591 rfl ?_
    refine L_arg (pc := 2592) (k := 1) hI hl (by decide) dL_law_2592 dL_law_2593 dL_law_2595 (by decide) dL_law_2596 dL_law_2597 ?_
    refine L_ref (pc := 2598) (As := [.int (sc (I + 1))]) (st := []) kvL_258 (t9_twoDays (sc (I + 1)) μM) hr' (by decide) rfl rfl (fun q e => by cases e) (fun q e => by cases e) (fun w hw => absurd hw List.not_mem_nil) (by decide) dL_law_2598 ?_
    exact L_tail tl_twoDays q1 q2 (k f' μX' μM' hi)
  refine yA_aload_n (pc := 2578) dL_law_2578 rfl ?_
  refine L_arg (pc := 2579) (k := 1) hI hl (by decide) dL_law_2579 dL_law_2580 dL_law_2582 (by decide) dL_law_2583 dL_law_2584 ?_
  refine yA_aload_n (pc := 2585) dL_law_2585 rfl ?_
  rcases he with rfl | he
  · exact L_wrap (pc := 2586) kwL_256 (tw_twoDays hr) (by decide) rfl rfl (Or.inl rfl) (by omega) (by omega) dL_law_2586 (T 0 _ (h0.trans (by decide)) (fun _ => hv rfl))
  · rcases cI_cases he with rfl
    · exact L_wrap (pc := 2586) kwL_256 (tw_twoDays_x1 hr) (by decide) rfl rfl (Or.inl rfl) (by omega) (by omega) dL_law_2586 (T 1 _ (h0.trans (by decide)) (fun q => absurd q (by decide)))
theorem C_image {len I : Nat} {sc : Nat → Int32} {g : Bool} {f : Nat → Int32} {μX μM : zMem} {ca cb : Nat} (hI : I + 7 ≤ len) (hl : len ≤ 3584) (h : zInv μX μM) (k : ∀ (f' : Nat → Int32) (μX' μM' : zMem), zInv μX' μM' → zLaw len sc 2685 (zLoc (zi I) .null .null) [] g μM' f' μX' ca cb) : zLaw len sc 2634 (zLoc (zi I) .null .null) [] g μM f μX (ca + 1) (cb + 6) := by
  obtain ⟨e, v, μX', w, μM', hr, hr', h0, hv, he, hi⟩ := P_image  h
  obtain rfl : e = 0 := he.resolve_right (fun q => absurd q (Nat.lt_irrefl 0))
  obtain rfl := hv rfl
  refine yA_more (Nat.le_add_right ca 1) (Nat.le_add_right cb 6) ?_
  refine yA_aload_n (pc := 2634) dL_law_2634 rfl ?_
  refine L_cls (pc := 2635) (As := []) (st := []) kvL_259 (t8_image μX) hr (by decide) rfl rfl (fun w hw => absurd hw List.not_mem_nil) (by decide) dL_law_2635 ?_
  refine yA_aload_n (pc := 2638) dL_law_2638 rfl ?_
  refine L_ref (pc := 2639) (As := []) (st := [.int v]) kvL_262 (t9_image μM) hr' (by decide) rfl rfl (fun q e => by cases e) (fun q e => by cases e) L_one (Nat.le_of_ble_eq_true rfl) dL_law_2639 ?_
  exact yA_icmp_eq_t (pc := 2642) (tgt := 2685) dL_law_2642 (by decide) rfl (k f μX' μM' hi)
theorem C_restore {len I : Nat} {sc : Nat → Int32} {g : Bool} {f : Nat → Int32} {μX μM : zMem} {ca cb : Nat} (hI : I + 7 ≤ len) (hl : len ≤ 3584) (h : zInv μX μM) (k : ∀ (f' : Nat → Int32) (μX' μM' : zMem), zInv μX' μM' → zLaw len sc 2685 (zLoc (zi I) .null .null) [] g μM' f' μX' ca cb) : zLaw len sc 2647 (zLoc (zi I) .null .null) [] g μM f μX (ca + 1) (cb + 6) := by
  obtain ⟨e, v, μX', w, μM', hr, hr', h0, hv, he, hi⟩ := P_restore  h
  obtain rfl : e = 0 := he.resolve_right (fun q => absurd q (Nat.lt_irrefl 0))
  obtain rfl := hv rfl
  refine yA_more (Nat.le_add_right ca 1) (Nat.le_add_right cb 6) ?_
  refine yA_aload_n (pc := 2647) dL_law_2647 rfl ?_
  refine L_cls (pc := 2648) (As := []) (st := []) kvL_263 (t8_restore μX) hr (by decide) rfl rfl (fun w hw => absurd hw List.not_mem_nil) (by decide) dL_law_2648 ?_
  refine yA_aload_n (pc := 2651) dL_law_2651 rfl ?_
  refine L_ref (pc := 2652) (As := []) (st := [.int v]) kvL_266 (t9_restore μM) hr' (by decide) rfl rfl (fun q e => by cases e) (fun q e => by cases e) L_one (Nat.le_of_ble_eq_true rfl) dL_law_2652 ?_
  exact yA_icmp_eq_t (pc := 2655) (tgt := 2685) dL_law_2655 (by decide) rfl (k f μX' μM' hi)
theorem C_count {len I : Nat} {sc : Nat → Int32} {g : Bool} {f : Nat → Int32} {μX μM : zMem} {ca cb : Nat} (hI : I + 7 ≤ len) (hl : len ≤ 3584) (h : zInv μX μM) (k : ∀ (f' : Nat → Int32) (μX' μM' : zMem), zInv μX' μM' → zLaw len sc 2685 (zLoc (zi I) .null .null) [] g μM' f' μX' ca cb) : zLaw len sc 2660 (zLoc (zi I) .null .null) [] g μM f μX (ca + 1) (cb + 6) := by
  obtain ⟨e, v, μX', w, μM', hr, hr', h0, hv, he, hi⟩ := P_count (x := sc (I + 1)) h
  obtain rfl : e = 0 := he.resolve_right (fun q => absurd q (Nat.lt_irrefl 0))
  obtain rfl := hv rfl
  refine yA_more (Nat.le_add_right ca 1) (Nat.le_add_right cb 6) ?_
  refine yA_aload_n (pc := 2660) dL_law_2660 rfl ?_
  refine L_arg (pc := 2661) (k := 1) hI hl (by decide) dL_law_2661 dL_law_2662 dL_law_2664 (by decide) dL_law_2665 dL_law_2666 ?_
  refine L_cls (pc := 2667) (As := [.int (sc (I + 1))]) (st := []) kvL_267 (t8_count (sc (I + 1)) μX) hr (by decide) rfl rfl (fun w hw => absurd hw List.not_mem_nil) (by decide) dL_law_2667 ?_
  refine yA_aload_n (pc := 2670) dL_law_2670 rfl ?_
  refine L_arg (pc := 2671) (k := 1) hI hl (by decide) dL_law_2671 dL_law_2672 dL_law_2674 (by decide) dL_law_2675 dL_law_2676 ?_
  refine L_ref (pc := 2677) (As := [.int (sc (I + 1))]) (st := [.int v]) kvL_270 (t9_count (sc (I + 1)) μM) hr' (by decide) rfl rfl (fun q e => by cases e) (fun q e => by cases e) L_one (Nat.le_of_ble_eq_true rfl) dL_law_2677 ?_
  exact yA_icmp_eq_t (pc := 2680) (tgt := 2685) dL_law_2680 (by decide) rfl (k f μX' μM' hi)
