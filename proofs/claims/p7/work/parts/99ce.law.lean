/-! Part 99ce: cases of the law. Printed by wip/tools/genlaw.py. -/
theorem y_k32 {Γ : q_Γ} (hG : q_GG Γ) {i : Nat} (hi : i + 6 ≤ Γ.2.2.2.1) (hL : Γ.2.2.2.1 ≤ 3072) {h : q_F} (hA : q_Al 0 155 h) (J : t_J h) (E : h 1 1 = h 139 14) {cl sl : Nat} (hc : cl ≤ 3900) (hs : sl ≤ 39000) (k : y_K Γ i cl sl) : q_R Γ q_K 155 369 y_P (1379, y_lo i, [], q_hp q_K 155 h, [], cl, sl) := by
  obtain ⟨S, J⟩ := J
  refine r_aload_n c369_1379 rfl rfl ?_
  refine y_arg c369_1380 c369_1381 c369_1383 c369_1384 c369_1385 rfl rfl rfl hi hL (by decide) ?_
  refine y_arg c369_1386 c369_1387 c369_1389 c369_1390 c369_1391 rfl rfl rfl hi hL (by decide) ?_
  refine y_nz c369_1392 c369_1395 c369_1396 c369_1399 rfl (hG.1 (i + 2)) ?_
  refine r_aload_n c369_1400 rfl rfl ?_
  obtain ⟨v1, g1, e1, J1⟩ := t_L21 (v1 := (Γ.1 (i + 1))) (v2 := (y_nzv (Γ.1 (i + 2)))) hA J
  refine y_cs (a := 1) (b := 6) c369_1401 rfl rfl (by omega) (by omega) rfl rfl (wn21 hG (hG.1 (i + 1)) (y_nz01 (Γ.1 (i + 2))) hA e1) ?_
  intro i1 A1
  refine r_istore c369_1404 (lo' := [(6, (0, v1)), (5, (0, (i : Int))), (0, (9, 0)), (1, (2, Int.ofNat 0)), (2, (2, Int.ofNat 139)), (3, (2, Int.ofNat 153)), (4, (2, Int.ofNat 154))]) rfl rfl rfl ?_
  refine r_aload_n c369_1406 rfl rfl ?_
  refine y_arg c369_1407 c369_1408 c369_1410 c369_1411 c369_1412 rfl rfl rfl hi hL (by decide) ?_
  refine y_arg c369_1413 c369_1414 c369_1416 c369_1417 c369_1418 rfl rfl rfl hi hL (by decide) ?_
  refine y_nz c369_1419 c369_1422 c369_1423 c369_1426 rfl (hG.1 (i + 2)) ?_
  obtain ⟨v2, g2, e2, J2⟩ := t_r_ramp (m := (Γ.1 (i + 1))) (v := (y_nzv (Γ.1 (i + 2)))) A1 J1
  refine y_cv (a := 0) (b := 0) c369_1427 (by decide) rfl rfl rfl rfl (by omega) (by omega) rfl rfl (wn313 hG (hG.1 (i + 1)) (y_nz01 (Γ.1 (i + 2))) A1 e2) ?_
  intro i2 A2
  refine r_istore c369_1430 (lo' := [(7, (0, v2)), (6, (0, v1)), (5, (0, (i : Int))), (0, (9, 0)), (1, (2, Int.ofNat 0)), (2, (2, Int.ofNat 139)), (3, (2, Int.ofNat 153)), (4, (2, Int.ofNat 154))]) rfl rfl rfl ?_
  refine r_goto c369_1432 ?_
  refine q_R.wk (ks := [5, 0, 1, 2, 3, 4]) (lo' := y_lo i) rfl ?_
  exact k _ _ _ A2 ⟨⟨_, J2⟩, (j_T_J J2).2⟩ (by omega) (by omega)
theorem y_k33 {Γ : q_Γ} (hG : q_GG Γ) {i : Nat} (hi : i + 6 ≤ Γ.2.2.2.1) (hL : Γ.2.2.2.1 ≤ 3072) {h : q_F} (hA : q_Al 0 155 h) (J : t_J h) (E : h 1 1 = h 139 14) {cl sl : Nat} (hc : cl ≤ 3900) (hs : sl ≤ 39000) (k : y_K Γ i cl sl) : q_R Γ q_K 155 369 y_P (1435, y_lo i, [], q_hp q_K 155 h, [], cl, sl) := by
  obtain ⟨S, J⟩ := J
  refine r_aload_n c369_1435 rfl rfl ?_
  refine y_arg c369_1436 c369_1437 c369_1439 c369_1440 c369_1441 rfl rfl rfl hi hL (by decide) ?_
  refine r_aload_n c369_1442 rfl rfl ?_
  obtain ⟨v1, g1, e1, J1⟩ := t_L28 (v1 := (Γ.1 (i + 1))) hA J
  refine y_cs (a := 1) (b := 6) c369_1443 rfl rfl (by omega) (by omega) rfl rfl (wn28 hG (hG.1 (i + 1)) hA e1) ?_
  intro i1 A1
  refine r_istore c369_1446 (lo' := [(6, (0, v1)), (5, (0, (i : Int))), (0, (9, 0)), (1, (2, Int.ofNat 0)), (2, (2, Int.ofNat 139)), (3, (2, Int.ofNat 153)), (4, (2, Int.ofNat 154))]) rfl rfl rfl ?_
  refine r_aload_n c369_1448 rfl rfl ?_
  refine y_arg c369_1449 c369_1450 c369_1452 c369_1453 c369_1454 rfl rfl rfl hi hL (by decide) ?_
  obtain ⟨v2, g2, e2, J2⟩ := t_r_slowest (m := (Γ.1 (i + 1))) A1 J1
  refine y_cv (a := 0) (b := 0) c369_1455 (by decide) rfl rfl rfl rfl (by omega) (by omega) rfl rfl (wn336 hG (hG.1 (i + 1)) A1 e2) ?_
  intro i2 A2
  refine r_istore c369_1458 (lo' := [(7, (0, v2)), (6, (0, v1)), (5, (0, (i : Int))), (0, (9, 0)), (1, (2, Int.ofNat 0)), (2, (2, Int.ofNat 139)), (3, (2, Int.ofNat 153)), (4, (2, Int.ofNat 154))]) rfl rfl rfl ?_
  refine r_goto c369_1460 ?_
  refine q_R.wk (ks := [5, 0, 1, 2, 3, 4]) (lo' := y_lo i) rfl ?_
  exact k _ _ _ A2 ⟨⟨_, J2⟩, (j_T_J J2).2⟩ (by omega) (by omega)
theorem y_k34 {Γ : q_Γ} (hG : q_GG Γ) {i : Nat} (hi : i + 6 ≤ Γ.2.2.2.1) (hL : Γ.2.2.2.1 ≤ 3072) {h : q_F} (hA : q_Al 0 155 h) (J : t_J h) (E : h 1 1 = h 139 14) {cl sl : Nat} (hc : cl ≤ 3900) (hs : sl ≤ 39000) (k : y_K Γ i cl sl) : q_R Γ q_K 155 369 y_P (1463, y_lo i, [], q_hp q_K 155 h, [], cl, sl) := by
  obtain ⟨S, J⟩ := J
  refine r_aload_n c369_1463 rfl rfl ?_
  obtain ⟨v1, g1, e1, J1⟩ := t_c_pairs  hA J
  refine y_cv (a := 0) (b := 0) c369_1464 (by decide) rfl rfl rfl rfl (by omega) (by omega) rfl rfl (wn218 hG  hA e1) ?_
  intro i1 A1
  refine r_pop c369_1467 rfl rfl ?_
  refine r_aload_n c369_1468 rfl rfl ?_
  obtain ⟨v2, g2, e2, J2⟩ := t_r_pairs  A1 J1
  refine y_cv (a := 0) (b := 0) c369_1469 (by decide) rfl rfl rfl rfl (by omega) (by omega) rfl rfl (wn344 hG  A1 e2) ?_
  intro i2 A2
  refine r_pop c369_1472 rfl rfl ?_
  refine r_goto c369_1473 ?_
  refine q_R.wk (ks := [5, 0, 1, 2, 3, 4]) (lo' := y_lo i) rfl ?_
  exact k _ _ _ A2 ⟨⟨_, J2⟩, (j_T_J J2).2⟩ (by omega) (by omega)
theorem y_k35 {Γ : q_Γ} (hG : q_GG Γ) {i : Nat} (hi : i + 6 ≤ Γ.2.2.2.1) (hL : Γ.2.2.2.1 ≤ 3072) {h : q_F} (hA : q_Al 0 155 h) (J : t_J h) (E : h 1 1 = h 139 14) {cl sl : Nat} (hc : cl ≤ 3900) (hs : sl ≤ 39000) (k : y_K Γ i cl sl) : q_R Γ q_K 155 369 y_P (1476, y_lo i, [], q_hp q_K 155 h, [], cl, sl) := by
  obtain ⟨S, J⟩ := J
  refine r_aload_n c369_1476 rfl rfl ?_
  refine y_arg c369_1477 c369_1478 c369_1480 c369_1481 c369_1482 rfl rfl rfl hi hL (by decide) ?_
  refine y_arg c369_1483 c369_1484 c369_1486 c369_1487 c369_1488 rfl rfl rfl hi hL (by decide) ?_
  refine y_nz c369_1489 c369_1492 c369_1493 c369_1496 rfl (hG.1 (i + 2)) ?_
  refine r_aload_n c369_1497 rfl rfl ?_
  obtain ⟨v1, g1, e1, J1⟩ := t_L3 (v1 := (Γ.1 (i + 1))) (v2 := (y_nzv (Γ.1 (i + 2)))) hA J
  refine y_cs (a := 2) (b := 12) c369_1498 rfl rfl (by omega) (by omega) rfl rfl (wn3 hG (hG.1 (i + 1)) (y_nz01 (Γ.1 (i + 2))) hA e1) ?_
  intro i1 A1
  refine r_istore c369_1501 (lo' := [(6, (0, v1)), (5, (0, (i : Int))), (0, (9, 0)), (1, (2, Int.ofNat 0)), (2, (2, Int.ofNat 139)), (3, (2, Int.ofNat 153)), (4, (2, Int.ofNat 154))]) rfl rfl rfl ?_
  refine r_aload_n c369_1503 rfl rfl ?_
  refine y_arg c369_1504 c369_1505 c369_1507 c369_1508 c369_1509 rfl rfl rfl hi hL (by decide) ?_
  refine y_arg c369_1510 c369_1511 c369_1513 c369_1514 c369_1515 rfl rfl rfl hi hL (by decide) ?_
  refine y_nz c369_1516 c369_1519 c369_1520 c369_1523 rfl (hG.1 (i + 2)) ?_
  obtain ⟨v2, g2, e2, J2⟩ := t_r_bound (a := (Γ.1 (i + 1))) (u := (y_nzv (Γ.1 (i + 2)))) A1 J1
  refine y_cv (a := 0) (b := 0) c369_1524 (by decide) rfl rfl rfl rfl (by omega) (by omega) rfl rfl (wn244 hG (hG.1 (i + 1)) (y_nz01 (Γ.1 (i + 2))) A1 e2) ?_
  intro i2 A2
  refine r_istore c369_1527 (lo' := [(7, (0, v2)), (6, (0, v1)), (5, (0, (i : Int))), (0, (9, 0)), (1, (2, Int.ofNat 0)), (2, (2, Int.ofNat 139)), (3, (2, Int.ofNat 153)), (4, (2, Int.ofNat 154))]) rfl rfl rfl ?_
  refine r_goto c369_1529 ?_
  refine q_R.wk (ks := [5, 0, 1, 2, 3, 4]) (lo' := y_lo i) rfl ?_
  exact k _ _ _ A2 ⟨⟨_, J2⟩, (j_T_J J2).2⟩ (by omega) (by omega)
theorem y_k36 {Γ : q_Γ} (hG : q_GG Γ) {i : Nat} (hi : i + 6 ≤ Γ.2.2.2.1) (hL : Γ.2.2.2.1 ≤ 3072) {h : q_F} (hA : q_Al 0 155 h) (J : t_J h) (E : h 1 1 = h 139 14) {cl sl : Nat} (hc : cl ≤ 3900) (hs : sl ≤ 39000) (k : y_K Γ i cl sl) : q_R Γ q_K 155 369 y_P (1532, y_lo i, [], q_hp q_K 155 h, [], cl, sl) := by
  obtain ⟨S, J⟩ := J
  refine r_aload_n c369_1532 rfl rfl ?_
  refine y_arg c369_1533 c369_1534 c369_1536 c369_1537 c369_1538 rfl rfl rfl hi hL (by decide) ?_
  refine y_arg c369_1539 c369_1540 c369_1542 c369_1543 c369_1544 rfl rfl rfl hi hL (by decide) ?_
  refine y_arg c369_1545 c369_1546 c369_1548 c369_1549 c369_1550 rfl rfl rfl hi hL (by decide) ?_
  obtain ⟨S1, hm1, hI1⟩ := ((j_T_J J).1).1
  obtain ⟨v1, e1⟩ := c_nearest (x := (Γ.1 (i + 1))) (y := (Γ.1 (i + 2))) (z := (Γ.1 (i + 3))) hI1 hm1
  refine y_cp (a := 0) (b := 0) c369_1551 (by decide) rfl rfl rfl rfl (by omega) (by omega) rfl rfl (wn192 hG (hG.1 (i + 1)) (hG.1 (i + 2)) (hG.1 (i + 3)) hA e1) ?_
  intro i1
  refine r_pop c369_1554 rfl rfl ?_
  refine r_aload_n c369_1555 rfl rfl ?_
  refine y_arg c369_1556 c369_1557 c369_1559 c369_1560 c369_1561 rfl rfl rfl hi hL (by decide) ?_
  refine y_arg c369_1562 c369_1563 c369_1565 c369_1566 c369_1567 rfl rfl rfl hi hL (by decide) ?_
  refine y_arg c369_1568 c369_1569 c369_1571 c369_1572 c369_1573 rfl rfl rfl hi hL (by decide) ?_
  obtain ⟨v2, g2, e2, J2⟩ := t_r_nearest (x := (Γ.1 (i + 1))) (y := (Γ.1 (i + 2))) (z := (Γ.1 (i + 3))) hA J
  refine y_cv (a := 0) (b := 0) c369_1574 (by decide) rfl rfl rfl rfl (by omega) (by omega) rfl rfl (wn295 hG (hG.1 (i + 1)) (hG.1 (i + 2)) (hG.1 (i + 3)) hA e2) ?_
  intro i2 A2
  refine r_pop c369_1577 rfl rfl ?_
  refine r_goto c369_1578 ?_
  refine q_R.wk (ks := [5, 0, 1, 2, 3, 4]) (lo' := y_lo i) rfl ?_
  exact k _ _ _ A2 ⟨⟨_, J2⟩, (j_T_J J2).2⟩ (by omega) (by omega)
theorem y_k37 {Γ : q_Γ} (hG : q_GG Γ) {i : Nat} (hi : i + 6 ≤ Γ.2.2.2.1) (hL : Γ.2.2.2.1 ≤ 3072) {h : q_F} (hA : q_Al 0 155 h) (J : t_J h) (E : h 1 1 = h 139 14) {cl sl : Nat} (hc : cl ≤ 3900) (hs : sl ≤ 39000) (k : y_K Γ i cl sl) : q_R Γ q_K 155 369 y_P (1581, y_lo i, [], q_hp q_K 155 h, [], cl, sl) := by
  obtain ⟨S, J⟩ := J
  refine r_aload_n c369_1581 rfl rfl ?_
  refine y_arg c369_1582 c369_1583 c369_1585 c369_1586 c369_1587 rfl rfl rfl hi hL (by decide) ?_
  refine r_aload_n c369_1588 rfl rfl ?_
  obtain ⟨v1, g1, e1, J1⟩ := t_L18 (v1 := (Γ.1 (i + 1))) hA J
  refine y_cs (a := 1) (b := 6) c369_1589 rfl rfl (by omega) (by omega) rfl rfl (wn18 hG (hG.1 (i + 1)) hA e1) ?_
  intro i1 A1
  refine r_istore c369_1592 (lo' := [(6, (0, v1)), (5, (0, (i : Int))), (0, (9, 0)), (1, (2, Int.ofNat 0)), (2, (2, Int.ofNat 139)), (3, (2, Int.ofNat 153)), (4, (2, Int.ofNat 154))]) rfl rfl rfl ?_
  refine r_aload_n c369_1594 rfl rfl ?_
  refine y_arg c369_1595 c369_1596 c369_1598 c369_1599 c369_1600 rfl rfl rfl hi hL (by decide) ?_
  obtain ⟨v2, g2, e2, J2⟩ := t_r_nord (i := (Γ.1 (i + 1))) A1 J1
  refine y_cv (a := 0) (b := 0) c369_1601 (by decide) rfl rfl rfl rfl (by omega) (by omega) rfl rfl (wn297 hG (hG.1 (i + 1)) A1 e2) ?_
  intro i2 A2
  refine r_istore c369_1604 (lo' := [(7, (0, v2)), (6, (0, v1)), (5, (0, (i : Int))), (0, (9, 0)), (1, (2, Int.ofNat 0)), (2, (2, Int.ofNat 139)), (3, (2, Int.ofNat 153)), (4, (2, Int.ofNat 154))]) rfl rfl rfl ?_
  refine r_goto c369_1606 ?_
  refine q_R.wk (ks := [5, 0, 1, 2, 3, 4]) (lo' := y_lo i) rfl ?_
  exact k _ _ _ A2 ⟨⟨_, J2⟩, (j_T_J J2).2⟩ (by omega) (by omega)
theorem y_k38 {Γ : q_Γ} (hG : q_GG Γ) {i : Nat} (hi : i + 6 ≤ Γ.2.2.2.1) (hL : Γ.2.2.2.1 ≤ 3072) {h : q_F} (hA : q_Al 0 155 h) (J : t_J h) (E : h 1 1 = h 139 14) {cl sl : Nat} (hc : cl ≤ 3900) (hs : sl ≤ 39000) (k : y_K Γ i cl sl) : q_R Γ q_K 155 369 y_P (1609, y_lo i, [], q_hp q_K 155 h, [], cl, sl) := by
  obtain ⟨S, J⟩ := J
  refine r_aload_n c369_1609 rfl rfl ?_
  refine y_arg c369_1610 c369_1611 c369_1613 c369_1614 c369_1615 rfl rfl rfl hi hL (by decide) ?_
  refine r_aload_n c369_1616 rfl rfl ?_
  obtain ⟨v1, g1, e1, J1⟩ := t_L13 (v1 := (Γ.1 (i + 1))) hA J
  refine y_cs (a := 1) (b := 6) c369_1617 rfl rfl (by omega) (by omega) rfl rfl (wn13 hG (hG.1 (i + 1)) hA e1) ?_
  intro i1 A1
  refine r_istore c369_1620 (lo' := [(6, (0, v1)), (5, (0, (i : Int))), (0, (9, 0)), (1, (2, Int.ofNat 0)), (2, (2, Int.ofNat 139)), (3, (2, Int.ofNat 153)), (4, (2, Int.ofNat 154))]) rfl rfl rfl ?_
  refine r_aload_n c369_1622 rfl rfl ?_
  refine y_arg c369_1623 c369_1624 c369_1626 c369_1627 c369_1628 rfl rfl rfl hi hL (by decide) ?_
  obtain ⟨v2, g2, e2, J2⟩ := t_r_lasts (m := (Γ.1 (i + 1))) A1 J1
  refine y_cv (a := 0) (b := 0) c369_1629 (by decide) rfl rfl rfl rfl (by omega) (by omega) rfl rfl (wn276 hG (hG.1 (i + 1)) A1 e2) ?_
  intro i2 A2
  refine r_lstore c369_1632 (lo' := [(7, (1, v2)), (6, (0, v1)), (5, (0, (i : Int))), (0, (9, 0)), (1, (2, Int.ofNat 0)), (2, (2, Int.ofNat 139)), (3, (2, Int.ofNat 153)), (4, (2, Int.ofNat 154))]) rfl rfl rfl ?_
  refine r_goto c369_1634 ?_
  refine q_R.wk (ks := [5, 0, 1, 2, 3, 4]) (lo' := y_lo i) rfl ?_
  exact k _ _ _ A2 ⟨⟨_, J2⟩, (j_T_J J2).2⟩ (by omega) (by omega)
theorem y_k39 {Γ : q_Γ} (hG : q_GG Γ) {i : Nat} (hi : i + 6 ≤ Γ.2.2.2.1) (hL : Γ.2.2.2.1 ≤ 3072) {h : q_F} (hA : q_Al 0 155 h) (J : t_J h) (E : h 1 1 = h 139 14) {cl sl : Nat} (hc : cl ≤ 3900) (hs : sl ≤ 39000) (k : y_K Γ i cl sl) : q_R Γ q_K 155 369 y_P (1637, y_lo i, [], q_hp q_K 155 h, [], cl, sl) := by
  obtain ⟨S, J⟩ := J
  refine r_aload_n c369_1637 rfl rfl ?_
  refine y_arg c369_1638 c369_1639 c369_1641 c369_1642 c369_1643 rfl rfl rfl hi hL (by decide) ?_
  refine y_arg c369_1644 c369_1645 c369_1647 c369_1648 c369_1649 rfl rfl rfl hi hL (by decide) ?_
  refine r_aload_n c369_1650 rfl rfl ?_
  obtain ⟨v1, g1, e1, J1⟩ := t_L38 (v1 := (Γ.1 (i + 1))) (v2 := (Γ.1 (i + 2))) hA J
  refine y_cs (a := 3) (b := 18) c369_1651 rfl rfl (by omega) (by omega) rfl rfl (wn38 hG (hG.1 (i + 1)) (hG.1 (i + 2)) hA e1) ?_
  intro i1 A1
  refine r_istore c369_1654 (lo' := [(6, (0, v1)), (5, (0, (i : Int))), (0, (9, 0)), (1, (2, Int.ofNat 0)), (2, (2, Int.ofNat 139)), (3, (2, Int.ofNat 153)), (4, (2, Int.ofNat 154))]) rfl rfl rfl ?_
  refine r_aload_n c369_1656 rfl rfl ?_
  refine y_arg c369_1657 c369_1658 c369_1660 c369_1661 c369_1662 rfl rfl rfl hi hL (by decide) ?_
  refine y_arg c369_1663 c369_1664 c369_1666 c369_1667 c369_1668 rfl rfl rfl hi hL (by decide) ?_
  obtain ⟨v2, g2, e2, J2⟩ := t_r_where (a := (Γ.1 (i + 1))) (t := (Γ.1 (i + 2))) A1 J1
  refine y_cv (a := 0) (b := 0) c369_1669 (by decide) rfl rfl rfl rfl (by omega) (by omega) rfl rfl (wn362 hG (hG.1 (i + 1)) (hG.1 (i + 2)) A1 e2) ?_
  intro i2 A2
  refine r_istore c369_1672 (lo' := [(7, (0, v2)), (6, (0, v1)), (5, (0, (i : Int))), (0, (9, 0)), (1, (2, Int.ofNat 0)), (2, (2, Int.ofNat 139)), (3, (2, Int.ofNat 153)), (4, (2, Int.ofNat 154))]) rfl rfl rfl ?_
  refine r_goto c369_1674 ?_
  refine q_R.wk (ks := [5, 0, 1, 2, 3, 4]) (lo' := y_lo i) rfl ?_
  exact k _ _ _ A2 ⟨⟨_, J2⟩, (j_T_J J2).2⟩ (by omega) (by omega)
