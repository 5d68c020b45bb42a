/-! Part 99cf: cases of the law. Printed by wip/tools/genlaw.py. -/
theorem y_k40 {Γ : q_Γ} (hG : q_GG Γ) {i : Nat} (hi : i + 6 ≤ Γ.2.2.2.1) (hL : Γ.2.2.2.1 ≤ 3072) {h : q_F} (hA : q_Al 0 155 h) (J : t_J h) (E : h 1 1 = h 139 14) {cl sl : Nat} (hc : cl ≤ 3900) (hs : sl ≤ 39000) (k : y_K Γ i cl sl) : q_R Γ q_K 155 368 y_P (1649, y_lo i, [], q_hp q_K 155 h, [], cl, sl) := by
  obtain ⟨S, J⟩ := J
  refine r_aload_n c368_1649 rfl rfl ?_
  refine y_arg c368_1650 c368_1651 c368_1653 c368_1654 c368_1655 rfl rfl rfl hi hL (by decide) ?_
  refine r_aload_n c368_1656 rfl rfl ?_
  obtain ⟨v1, g1, e1, J1⟩ := t_L35 (v1 := (Γ.1 (i + 1))) hA J
  refine y_cs (a := 1) (b := 6) c368_1657 rfl rfl (by omega) (by omega) rfl rfl (wn35 hG (hG.1 (i + 1)) hA e1) ?_
  intro i1 A1
  refine r_istore c368_1660 (lo' := [(6, (0, v1)), (5, (0, (i : Int))), (0, (9, 0)), (1, (2, Int.ofNat 0)), (2, (2, Int.ofNat 139)), (3, (2, Int.ofNat 153)), (4, (2, Int.ofNat 154))]) rfl rfl rfl ?_
  refine r_aload_n c368_1662 rfl rfl ?_
  refine y_arg c368_1663 c368_1664 c368_1666 c368_1667 c368_1668 rfl rfl rfl hi hL (by decide) ?_
  obtain ⟨v2, g2, e2, J2⟩ := t_r_trueB (a := (Γ.1 (i + 1))) A1 J1
  refine y_cv (a := 0) (b := 0) c368_1669 (by decide) rfl rfl rfl rfl (by omega) (by omega) rfl rfl (wn357 hG (hG.1 (i + 1)) A1 e2) ?_
  intro i2 A2
  refine r_istore c368_1672 (lo' := [(7, (0, v2)), (6, (0, v1)), (5, (0, (i : Int))), (0, (9, 0)), (1, (2, Int.ofNat 0)), (2, (2, Int.ofNat 139)), (3, (2, Int.ofNat 153)), (4, (2, Int.ofNat 154))]) rfl rfl rfl ?_
  refine r_goto c368_1674 ?_
  refine q_R.wk (ks := [5, 0, 1, 2, 3, 4]) (lo' := y_lo i) rfl ?_
  exact k _ _ _ A2 ⟨⟨_, J2⟩, (j_T_J J2).2⟩ (by omega) (by omega)
theorem y_k41 {Γ : q_Γ} (hG : q_GG Γ) {i : Nat} (hi : i + 6 ≤ Γ.2.2.2.1) (hL : Γ.2.2.2.1 ≤ 3072) {h : q_F} (hA : q_Al 0 155 h) (J : t_J h) (E : h 1 1 = h 139 14) {cl sl : Nat} (hc : cl ≤ 3900) (hs : sl ≤ 39000) (k : y_K Γ i cl sl) : q_R Γ q_K 155 368 y_P (1677, y_lo i, [], q_hp q_K 155 h, [], cl, sl) := by
  obtain ⟨S, J⟩ := J
  refine r_aload_n c368_1677 rfl rfl ?_
  refine y_arg c368_1678 c368_1679 c368_1681 c368_1682 c368_1683 rfl rfl rfl hi hL (by decide) ?_
  refine r_aload c368_1684 rfl rfl ?_
  obtain ⟨v1, g1, e1, J1⟩ := t_L14 (v1 := (Γ.1 (i + 1))) hA J
  refine y_cs (a := 1) (b := 6) c368_1686 rfl rfl (by omega) (by omega) rfl rfl (wn14 hG (hG.1 (i + 1)) hA e1) ?_
  intro i1 A1
  refine r_istore c368_1689 (lo' := [(6, (0, v1)), (5, (0, (i : Int))), (0, (9, 0)), (1, (2, Int.ofNat 0)), (2, (2, Int.ofNat 139)), (3, (2, Int.ofNat 153)), (4, (2, Int.ofNat 154))]) rfl rfl rfl ?_
  refine r_aload_n c368_1691 rfl rfl ?_
  refine y_arg c368_1692 c368_1693 c368_1695 c368_1696 c368_1697 rfl rfl rfl hi hL (by decide) ?_
  obtain ⟨v2, g2, e2, J2⟩ := t_r_line (m := (Γ.1 (i + 1))) A1 J1
  refine y_cv (a := 0) (b := 0) c368_1698 (by decide) rfl rfl rfl rfl (by omega) (by omega) rfl rfl (wn281 hG (hG.1 (i + 1)) A1 e2) ?_
  intro i2 A2
  refine r_dstore c368_1701 (lo' := [(7, (5, v2)), (6, (0, v1)), (5, (0, (i : Int))), (0, (9, 0)), (1, (2, Int.ofNat 0)), (2, (2, Int.ofNat 139)), (3, (2, Int.ofNat 153)), (4, (2, Int.ofNat 154))]) rfl rfl rfl ?_
  refine r_goto c368_1703 ?_
  refine q_R.wk (ks := [5, 0, 1, 2, 3, 4]) (lo' := y_lo i) rfl ?_
  exact k _ _ _ A2 ⟨⟨_, J2⟩, (j_T_J J2).2⟩ (by omega) (by omega)
theorem y_k42 {Γ : q_Γ} (hG : q_GG Γ) {i : Nat} (hi : i + 6 ≤ Γ.2.2.2.1) (hL : Γ.2.2.2.1 ≤ 3072) {h : q_F} (hA : q_Al 0 155 h) (J : t_J h) (E : h 1 1 = h 139 14) {cl sl : Nat} (hc : cl ≤ 3900) (hs : sl ≤ 39000) (k : y_K Γ i cl sl) : q_R Γ q_K 155 368 y_P (1706, y_lo i, [], q_hp q_K 155 h, [], cl, sl) := by
  obtain ⟨S, J⟩ := J
  refine r_aload_n c368_1706 rfl rfl ?_
  obtain ⟨v1, g1, e1, J1⟩ := t_c_qlen  hA J
  refine y_cv (a := 0) (b := 0) c368_1707 (by decide) rfl rfl rfl rfl (by omega) (by omega) rfl rfl (wn199 hG  hA e1) ?_
  intro i1 A1
  refine r_dstore c368_1710 (lo' := [(6, (5, v1)), (5, (0, (i : Int))), (0, (9, 0)), (1, (2, Int.ofNat 0)), (2, (2, Int.ofNat 139)), (3, (2, Int.ofNat 153)), (4, (2, Int.ofNat 154))]) rfl rfl rfl ?_
  refine r_aload_n c368_1712 rfl rfl ?_
  obtain ⟨v2, g2, e2, J2⟩ := t_r_qlen  A1 J1
  refine y_cv (a := 0) (b := 0) c368_1713 (by decide) rfl rfl rfl rfl (by omega) (by omega) rfl rfl (wn310 hG  A1 e2) ?_
  intro i2 A2
  refine r_dstore c368_1716 (lo' := [(8, (5, v2)), (6, (5, v1)), (5, (0, (i : Int))), (0, (9, 0)), (1, (2, Int.ofNat 0)), (2, (2, Int.ofNat 139)), (3, (2, Int.ofNat 153)), (4, (2, Int.ofNat 154))]) rfl rfl rfl ?_
  refine r_goto c368_1718 ?_
  refine q_R.wk (ks := [5, 0, 1, 2, 3, 4]) (lo' := y_lo i) rfl ?_
  exact k _ _ _ A2 ⟨⟨_, J2⟩, (j_T_J J2).2⟩ (by omega) (by omega)
theorem y_k43 {Γ : q_Γ} (hG : q_GG Γ) {i : Nat} (hi : i + 6 ≤ Γ.2.2.2.1) (hL : Γ.2.2.2.1 ≤ 3072) {h : q_F} (hA : q_Al 0 155 h) (J : t_J h) (E : h 1 1 = h 139 14) {cl sl : Nat} (hc : cl ≤ 3900) (hs : sl ≤ 39000) (k : y_K Γ i cl sl) : q_R Γ q_K 155 368 y_P (1721, y_lo i, [], q_hp q_K 155 h, [], cl, sl) := by
  obtain ⟨S, J⟩ := J
  refine r_aload_n c368_1721 rfl rfl ?_
  refine y_arg c368_1722 c368_1723 c368_1725 c368_1726 c368_1727 rfl rfl rfl hi hL (by decide) ?_
  refine r_aload c368_1728 rfl rfl ?_
  obtain ⟨v1, g1, e1, J1⟩ := t_L16 (v1 := (Γ.1 (i + 1))) hA J
  refine y_cs (a := 1) (b := 6) c368_1730 rfl rfl (by omega) (by omega) rfl rfl (wn16 hG (hG.1 (i + 1)) hA e1) ?_
  intro i1 A1
  refine r_istore c368_1733 (lo' := [(6, (0, v1)), (5, (0, (i : Int))), (0, (9, 0)), (1, (2, Int.ofNat 0)), (2, (2, Int.ofNat 139)), (3, (2, Int.ofNat 153)), (4, (2, Int.ofNat 154))]) rfl rfl rfl ?_
  refine r_aload_n c368_1735 rfl rfl ?_
  refine y_arg c368_1736 c368_1737 c368_1739 c368_1740 c368_1741 rfl rfl rfl hi hL (by decide) ?_
  obtain ⟨v2, g2, e2, J2⟩ := t_r_msp (m := (Γ.1 (i + 1))) A1 J1
  refine y_cv (a := 0) (b := 0) c368_1742 (by decide) rfl rfl rfl rfl (by omega) (by omega) rfl rfl (wn293 hG (hG.1 (i + 1)) A1 e2) ?_
  intro i2 A2
  refine r_dstore c368_1745 (lo' := [(7, (5, v2)), (6, (0, v1)), (5, (0, (i : Int))), (0, (9, 0)), (1, (2, Int.ofNat 0)), (2, (2, Int.ofNat 139)), (3, (2, Int.ofNat 153)), (4, (2, Int.ofNat 154))]) rfl rfl rfl ?_
  refine r_goto c368_1747 ?_
  refine q_R.wk (ks := [5, 0, 1, 2, 3, 4]) (lo' := y_lo i) rfl ?_
  exact k _ _ _ A2 ⟨⟨_, J2⟩, (j_T_J J2).2⟩ (by omega) (by omega)
theorem y_k44 {Γ : q_Γ} (hG : q_GG Γ) {i : Nat} (hi : i + 6 ≤ Γ.2.2.2.1) (hL : Γ.2.2.2.1 ≤ 3072) {h : q_F} (hA : q_Al 0 155 h) (J : t_J h) (E : h 1 1 = h 139 14) {cl sl : Nat} (hc : cl ≤ 3900) (hs : sl ≤ 39000) (k : y_K Γ i cl sl) : q_R Γ q_K 155 368 y_P (1750, y_lo i, [], q_hp q_K 155 h, [], cl, sl) := by
  obtain ⟨S, J⟩ := J
  refine r_aload_n c368_1750 rfl rfl ?_
  refine y_arg c368_1751 c368_1752 c368_1754 c368_1755 c368_1756 rfl rfl rfl hi hL (by decide) ?_
  refine r_aload_n c368_1757 rfl rfl ?_
  obtain ⟨v1, g1, e1, J1⟩ := t_L34 (v1 := (Γ.1 (i + 1))) hA J
  refine y_cs (a := 1) (b := 6) c368_1758 rfl rfl (by omega) (by omega) rfl rfl (wn34 hG (hG.1 (i + 1)) hA e1) ?_
  intro i1 A1
  refine r_istore c368_1761 (lo' := [(6, (0, v1)), (5, (0, (i : Int))), (0, (9, 0)), (1, (2, Int.ofNat 0)), (2, (2, Int.ofNat 139)), (3, (2, Int.ofNat 153)), (4, (2, Int.ofNat 154))]) rfl rfl rfl ?_
  refine r_aload_n c368_1763 rfl rfl ?_
  refine y_arg c368_1764 c368_1765 c368_1767 c368_1768 c368_1769 rfl rfl rfl hi hL (by decide) ?_
  obtain ⟨v2, g2, e2, J2⟩ := t_r_travel (a := (Γ.1 (i + 1))) A1 J1
  refine y_cv (a := 0) (b := 0) c368_1770 (by decide) rfl rfl rfl rfl (by omega) (by omega) rfl rfl (wn356 hG (hG.1 (i + 1)) A1 e2) ?_
  intro i2 A2
  refine r_istore c368_1773 (lo' := [(7, (0, v2)), (6, (0, v1)), (5, (0, (i : Int))), (0, (9, 0)), (1, (2, Int.ofNat 0)), (2, (2, Int.ofNat 139)), (3, (2, Int.ofNat 153)), (4, (2, Int.ofNat 154))]) rfl rfl rfl ?_
  refine r_goto c368_1775 ?_
  refine q_R.wk (ks := [5, 0, 1, 2, 3, 4]) (lo' := y_lo i) rfl ?_
  exact k _ _ _ A2 ⟨⟨_, J2⟩, (j_T_J J2).2⟩ (by omega) (by omega)
theorem y_k45 {Γ : q_Γ} (hG : q_GG Γ) {i : Nat} (hi : i + 6 ≤ Γ.2.2.2.1) (hL : Γ.2.2.2.1 ≤ 3072) {h : q_F} (hA : q_Al 0 155 h) (J : t_J h) (E : h 1 1 = h 139 14) {cl sl : Nat} (hc : cl ≤ 3900) (hs : sl ≤ 39000) (k : y_K Γ i cl sl) : q_R Γ q_K 155 368 y_P (1778, y_lo i, [], q_hp q_K 155 h, [], cl, sl) := by
  obtain ⟨S, J⟩ := J
  refine r_aload_n c368_1778 rfl rfl ?_
  refine y_arg c368_1779 c368_1780 c368_1782 c368_1783 c368_1784 rfl rfl rfl hi hL (by decide) ?_
  refine r_aload_n c368_1785 rfl rfl ?_
  obtain ⟨v1, g1, e1, J1⟩ := t_L36 (v1 := (Γ.1 (i + 1))) hA J
  refine y_cs (a := 1) (b := 6) c368_1786 rfl rfl (by omega) (by omega) rfl rfl (wn36 hG (hG.1 (i + 1)) hA e1) ?_
  intro i1 A1
  refine r_istore c368_1789 (lo' := [(6, (0, v1)), (5, (0, (i : Int))), (0, (9, 0)), (1, (2, Int.ofNat 0)), (2, (2, Int.ofNat 139)), (3, (2, Int.ofNat 153)), (4, (2, Int.ofNat 154))]) rfl rfl rfl ?_
  refine r_aload_n c368_1791 rfl rfl ?_
  refine y_arg c368_1792 c368_1793 c368_1795 c368_1796 c368_1797 rfl rfl rfl hi hL (by decide) ?_
  obtain ⟨v2, g2, e2, J2⟩ := t_r_turns (a := (Γ.1 (i + 1))) A1 J1
  refine y_cv (a := 0) (b := 0) c368_1798 (by decide) rfl rfl rfl rfl (by omega) (by omega) rfl rfl (wn359 hG (hG.1 (i + 1)) A1 e2) ?_
  intro i2 A2
  refine r_istore c368_1801 (lo' := [(7, (0, v2)), (6, (0, v1)), (5, (0, (i : Int))), (0, (9, 0)), (1, (2, Int.ofNat 0)), (2, (2, Int.ofNat 139)), (3, (2, Int.ofNat 153)), (4, (2, Int.ofNat 154))]) rfl rfl rfl ?_
  refine r_goto c368_1803 ?_
  refine q_R.wk (ks := [5, 0, 1, 2, 3, 4]) (lo' := y_lo i) rfl ?_
  exact k _ _ _ A2 ⟨⟨_, J2⟩, (j_T_J J2).2⟩ (by omega) (by omega)
theorem y_k46 {Γ : q_Γ} (hG : q_GG Γ) {i : Nat} (hi : i + 6 ≤ Γ.2.2.2.1) (hL : Γ.2.2.2.1 ≤ 3072) {h : q_F} (hA : q_Al 0 155 h) (J : t_J h) (E : h 1 1 = h 139 14) {cl sl : Nat} (hc : cl ≤ 3900) (hs : sl ≤ 39000) (k : y_K Γ i cl sl) : q_R Γ q_K 155 368 y_P (1806, y_lo i, [], q_hp q_K 155 h, [], cl, sl) := by
  obtain ⟨S, J⟩ := J
  refine r_aload_n c368_1806 rfl rfl ?_
  obtain ⟨v1, g1, e1, J1⟩ := t_c_queueTime  hA J
  refine y_cv (a := 0) (b := 0) c368_1807 (by decide) rfl rfl rfl rfl (by omega) (by omega) rfl rfl (wn200 hG  hA e1) ?_
  intro i1 A1
  refine r_pop2 c368_1810 rfl rfl ?_
  refine r_aload_n c368_1811 rfl rfl ?_
  obtain ⟨v2, g2, e2, J2⟩ := t_r_queueTime  A1 J1
  refine y_cv (a := 0) (b := 0) c368_1812 (by decide) rfl rfl rfl rfl (by omega) (by omega) rfl rfl (wn311 hG  A1 e2) ?_
  intro i2 A2
  refine r_pop2 c368_1815 rfl rfl ?_
  refine r_goto c368_1816 ?_
  refine q_R.wk (ks := [5, 0, 1, 2, 3, 4]) (lo' := y_lo i) rfl ?_
  exact k _ _ _ A2 ⟨⟨_, J2⟩, (j_T_J J2).2⟩ (by omega) (by omega)
theorem y_k47 {Γ : q_Γ} (hG : q_GG Γ) {i : Nat} (hi : i + 6 ≤ Γ.2.2.2.1) (hL : Γ.2.2.2.1 ≤ 3072) {h : q_F} (hA : q_Al 0 155 h) (J : t_J h) (E : h 1 1 = h 139 14) {cl sl : Nat} (hc : cl ≤ 3900) (hs : sl ≤ 39000) (k : y_K Γ i cl sl) : q_R Γ q_K 155 368 y_P (1819, y_lo i, [], q_hp q_K 155 h, [], cl, sl) := by
  obtain ⟨S, J⟩ := J
  refine r_aload_n c368_1819 rfl rfl ?_
  refine y_arg c368_1820 c368_1821 c368_1823 c368_1824 c368_1825 rfl rfl rfl hi hL (by decide) ?_
  refine y_arg c368_1826 c368_1827 c368_1829 c368_1830 c368_1831 rfl rfl rfl hi hL (by decide) ?_
  refine y_arg c368_1832 c368_1833 c368_1835 c368_1836 c368_1837 rfl rfl rfl hi hL (by decide) ?_
  refine r_aload_n c368_1838 rfl rfl ?_
  obtain ⟨v1, g1, e1, J1⟩ := t_L31 (v1 := (Γ.1 (i + 1))) (v2 := (Γ.1 (i + 2))) (v3 := (Γ.1 (i + 3))) hA J
  refine y_cs (a := 2) (b := 12) c368_1839 rfl rfl (by omega) (by omega) rfl rfl (wn31 hG (hG.1 (i + 1)) (hG.1 (i + 2)) (hG.1 (i + 3)) hA e1) ?_
  intro i1 A1
  refine r_istore c368_1842 (lo' := [(6, (0, v1)), (5, (0, (i : Int))), (0, (9, 0)), (1, (2, Int.ofNat 0)), (2, (2, Int.ofNat 139)), (3, (2, Int.ofNat 153)), (4, (2, Int.ofNat 154))]) rfl rfl rfl ?_
  refine r_aload_n c368_1844 rfl rfl ?_
  refine y_arg c368_1845 c368_1846 c368_1848 c368_1849 c368_1850 rfl rfl rfl hi hL (by decide) ?_
  refine y_arg c368_1851 c368_1852 c368_1854 c368_1855 c368_1856 rfl rfl rfl hi hL (by decide) ?_
  refine y_arg c368_1857 c368_1858 c368_1860 c368_1861 c368_1862 rfl rfl rfl hi hL (by decide) ?_
  obtain ⟨v2, g2, e2, J2⟩ := t_r_stTime (x := (Γ.1 (i + 1))) (y := (Γ.1 (i + 2))) (z := (Γ.1 (i + 3))) A1 J1
  refine y_cv (a := 0) (b := 0) c368_1863 (by decide) rfl rfl rfl rfl (by omega) (by omega) rfl rfl (wn345 hG (hG.1 (i + 1)) (hG.1 (i + 2)) (hG.1 (i + 3)) A1 e2) ?_
  intro i2 A2
  refine r_lstore c368_1866 (lo' := [(7, (1, v2)), (6, (0, v1)), (5, (0, (i : Int))), (0, (9, 0)), (1, (2, Int.ofNat 0)), (2, (2, Int.ofNat 139)), (3, (2, Int.ofNat 153)), (4, (2, Int.ofNat 154))]) rfl rfl rfl ?_
  refine r_goto c368_1868 ?_
  refine q_R.wk (ks := [5, 0, 1, 2, 3, 4]) (lo' := y_lo i) rfl ?_
  exact k _ _ _ A2 ⟨⟨_, J2⟩, (j_T_J J2).2⟩ (by omega) (by omega)
