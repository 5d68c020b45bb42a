/-! Part 99cg: cases of the law. Printed by wip/tools/genlaw.py. -/
theorem y_k48 {Γ : q_Γ} (hG : q_GG Γ) {i : Nat} (hi : i + 6 ≤ Γ.2.2.2.1) (hL : Γ.2.2.2.1 ≤ 3072) {h : q_F} (hA : q_Al 0 155 h) (J : t_J h) (E : h 1 1 = h 139 14) {cl sl : Nat} (hc : cl ≤ 3900) (hs : sl ≤ 39000) (k : y_K Γ i cl sl) : q_R Γ q_K 155 369 y_P (1899, y_lo i, [], q_hp q_K 155 h, [], cl, sl) := by
  obtain ⟨S, J⟩ := J
  refine r_aload_n c369_1899 rfl rfl ?_
  obtain ⟨v1, g1, e1, J1⟩ := t_c_wLose  hA J
  refine y_cv (a := 0) (b := 0) c369_1900 (by decide) rfl rfl rfl rfl (by omega) (by omega) rfl rfl (wn233 hG  hA e1) ?_
  intro i1 A1
  refine r_pop c369_1903 rfl rfl ?_
  refine r_aload_n c369_1904 rfl rfl ?_
  obtain ⟨v2, g2, e2, J2⟩ := t_r_wLose  A1 J1
  refine y_cv (a := 0) (b := 0) c369_1905 (by decide) rfl rfl rfl rfl (by omega) (by omega) rfl rfl (wn365 hG  A1 e2) ?_
  intro i2 A2
  refine r_pop c369_1908 rfl rfl ?_
  refine r_goto c369_1909 ?_
  refine q_R.wk (ks := [5, 0, 1, 2, 3, 4]) (lo' := y_lo i) rfl ?_
  exact k _ _ _ A2 ⟨⟨_, J2⟩, (j_T_J J2).2⟩ (by omega) (by omega)
theorem y_k49 {Γ : q_Γ} (hG : q_GG Γ) {i : Nat} (hi : i + 6 ≤ Γ.2.2.2.1) (hL : Γ.2.2.2.1 ≤ 3072) {h : q_F} (hA : q_Al 0 155 h) (J : t_J h) (E : h 1 1 = h 139 14) {cl sl : Nat} (hc : cl ≤ 3900) (hs : sl ≤ 39000) (k : y_K Γ i cl sl) : q_R Γ q_K 155 369 y_P (1912, y_lo i, [], q_hp q_K 155 h, [], cl, sl) := by
  obtain ⟨S, J⟩ := J
  refine r_aload_n c369_1912 rfl rfl ?_
  refine y_arg c369_1913 c369_1914 c369_1916 c369_1917 c369_1918 rfl rfl rfl hi hL (by decide) ?_
  refine r_aload_n c369_1919 rfl rfl ?_
  obtain ⟨v1, g1, e1, J1⟩ := t_L39 (v1 := (Γ.1 (i + 1))) hA J
  refine y_cs (a := 2) (b := 12) c369_1920 rfl rfl (by omega) (by omega) rfl rfl (wn39 hG (hG.1 (i + 1)) hA e1) ?_
  intro i1 A1
  refine r_istore c369_1923 (lo' := [(6, (0, v1)), (5, (0, (i : Int))), (0, (9, 0)), (1, (2, Int.ofNat 0)), (2, (2, Int.ofNat 139)), (3, (2, Int.ofNat 153)), (4, (2, Int.ofNat 154))]) rfl rfl rfl ?_
  refine r_aload_n c369_1925 rfl rfl ?_
  refine y_arg c369_1926 c369_1927 c369_1929 c369_1930 c369_1931 rfl rfl rfl hi hL (by decide) ?_
  obtain ⟨v2, g2, e2, J2⟩ := t_r_wErr (a := (Γ.1 (i + 1))) A1 J1
  refine y_cv (a := 0) (b := 0) c369_1932 (by decide) rfl rfl rfl rfl (by omega) (by omega) rfl rfl (wn363 hG (hG.1 (i + 1)) A1 e2) ?_
  intro i2 A2
  refine r_istore c369_1935 (lo' := [(7, (0, v2)), (6, (0, v1)), (5, (0, (i : Int))), (0, (9, 0)), (1, (2, Int.ofNat 0)), (2, (2, Int.ofNat 139)), (3, (2, Int.ofNat 153)), (4, (2, Int.ofNat 154))]) rfl rfl rfl ?_
  refine r_goto c369_1937 ?_
  refine q_R.wk (ks := [5, 0, 1, 2, 3, 4]) (lo' := y_lo i) rfl ?_
  exact k _ _ _ A2 ⟨⟨_, J2⟩, (j_T_J J2).2⟩ (by omega) (by omega)
theorem y_k50 {Γ : q_Γ} (hG : q_GG Γ) {i : Nat} (hi : i + 6 ≤ Γ.2.2.2.1) (hL : Γ.2.2.2.1 ≤ 3072) {h : q_F} (hA : q_Al 0 155 h) (J : t_J h) (E : h 1 1 = h 139 14) {cl sl : Nat} (hc : cl ≤ 3900) (hs : sl ≤ 39000) (k : y_K Γ i cl sl) : q_R Γ q_K 155 369 y_P (1940, y_lo i, [], q_hp q_K 155 h, [], cl, sl) := by
  obtain ⟨S, J⟩ := J
  refine r_aload_n c369_1940 rfl rfl ?_
  refine y_arg c369_1941 c369_1942 c369_1944 c369_1945 c369_1946 rfl rfl rfl hi hL (by decide) ?_
  refine r_aload_n c369_1947 rfl rfl ?_
  obtain ⟨v1, g1, e1, J1⟩ := t_L40 (v1 := (Γ.1 (i + 1))) hA J
  refine y_cs (a := 1) (b := 6) c369_1948 rfl rfl (by omega) (by omega) rfl rfl (wn40 hG (hG.1 (i + 1)) hA e1) ?_
  intro i1 A1
  refine r_istore c369_1951 (lo' := [(6, (0, v1)), (5, (0, (i : Int))), (0, (9, 0)), (1, (2, Int.ofNat 0)), (2, (2, Int.ofNat 139)), (3, (2, Int.ofNat 153)), (4, (2, Int.ofNat 154))]) rfl rfl rfl ?_
  refine r_aload_n c369_1953 rfl rfl ?_
  refine y_arg c369_1954 c369_1955 c369_1957 c369_1958 c369_1959 rfl rfl rfl hi hL (by decide) ?_
  obtain ⟨v2, g2, e2, J2⟩ := t_r_wHome (a := (Γ.1 (i + 1))) A1 J1
  refine y_cv (a := 0) (b := 0) c369_1960 (by decide) rfl rfl rfl rfl (by omega) (by omega) rfl rfl (wn364 hG (hG.1 (i + 1)) A1 e2) ?_
  intro i2 A2
  refine r_istore c369_1963 (lo' := [(7, (0, v2)), (6, (0, v1)), (5, (0, (i : Int))), (0, (9, 0)), (1, (2, Int.ofNat 0)), (2, (2, Int.ofNat 139)), (3, (2, Int.ofNat 153)), (4, (2, Int.ofNat 154))]) rfl rfl rfl ?_
  refine r_goto c369_1965 ?_
  refine q_R.wk (ks := [5, 0, 1, 2, 3, 4]) (lo' := y_lo i) rfl ?_
  exact k _ _ _ A2 ⟨⟨_, J2⟩, (j_T_J J2).2⟩ (by omega) (by omega)
theorem y_k51 {Γ : q_Γ} (hG : q_GG Γ) {i : Nat} (hi : i + 6 ≤ Γ.2.2.2.1) (hL : Γ.2.2.2.1 ≤ 3072) {h : q_F} (hA : q_Al 0 155 h) (J : t_J h) (E : h 1 1 = h 139 14) {cl sl : Nat} (hc : cl ≤ 3900) (hs : sl ≤ 39000) (k : y_K Γ i cl sl) : q_R Γ q_K 155 369 y_P (1968, y_lo i, [], q_hp q_K 155 h, [], cl, sl) := by
  obtain ⟨S, J⟩ := J
  refine r_aload_n c369_1968 rfl rfl ?_
  obtain ⟨v1, g1, e1, J1⟩ := t_c_bestF  hA J
  refine y_cv (a := 0) (b := 0) c369_1969 (by decide) rfl rfl rfl rfl (by omega) (by omega) rfl rfl (wn158 hG  hA e1) ?_
  intro i1 A1
  refine r_pop c369_1972 rfl rfl ?_
  refine r_aload_n c369_1973 rfl rfl ?_
  obtain ⟨v2, g2, e2, J2⟩ := t_r_bestF  A1 J1
  refine y_cv (a := 0) (b := 0) c369_1974 (by decide) rfl rfl rfl rfl (by omega) (by omega) rfl rfl (wn242 hG  A1 e2) ?_
  intro i2 A2
  refine r_pop c369_1977 rfl rfl ?_
  refine r_goto c369_1978 ?_
  refine q_R.wk (ks := [5, 0, 1, 2, 3, 4]) (lo' := y_lo i) rfl ?_
  exact k _ _ _ A2 ⟨⟨_, J2⟩, (j_T_J J2).2⟩ (by omega) (by omega)
theorem y_k52 {Γ : q_Γ} (hG : q_GG Γ) {i : Nat} (hi : i + 6 ≤ Γ.2.2.2.1) (hL : Γ.2.2.2.1 ≤ 3072) {h : q_F} (hA : q_Al 0 155 h) (J : t_J h) (E : h 1 1 = h 139 14) {cl sl : Nat} (hc : cl ≤ 3900) (hs : sl ≤ 39000) (k : y_K Γ i cl sl) : q_R Γ q_K 155 369 y_P (1981, y_lo i, [], q_hp q_K 155 h, [], cl, sl) := by
  obtain ⟨S, J⟩ := J
  refine r_aload_n c369_1981 rfl rfl ?_
  refine r_aload_n c369_1982 rfl rfl ?_
  obtain ⟨v1, g1, e1, J1⟩ := t_L2  hA J
  refine y_cs (a := 1) (b := 6) c369_1983 rfl rfl (by omega) (by omega) rfl rfl (wn2 hG  hA e1) ?_
  intro i1 A1
  refine r_istore c369_1986 (lo' := [(6, (0, v1)), (5, (0, (i : Int))), (0, (9, 0)), (1, (2, Int.ofNat 0)), (2, (2, Int.ofNat 139)), (3, (2, Int.ofNat 153)), (4, (2, Int.ofNat 154))]) rfl rfl rfl ?_
  refine r_aload_n c369_1988 rfl rfl ?_
  obtain ⟨v2, g2, e2, J2⟩ := t_r_bestS  A1 J1
  refine y_cv (a := 0) (b := 0) c369_1989 (by decide) rfl rfl rfl rfl (by omega) (by omega) rfl rfl (wn243 hG  A1 e2) ?_
  intro i2 A2
  refine r_istore c369_1992 (lo' := [(7, (0, v2)), (6, (0, v1)), (5, (0, (i : Int))), (0, (9, 0)), (1, (2, Int.ofNat 0)), (2, (2, Int.ofNat 139)), (3, (2, Int.ofNat 153)), (4, (2, Int.ofNat 154))]) rfl rfl rfl ?_
  refine r_goto c369_1994 ?_
  refine q_R.wk (ks := [5, 0, 1, 2, 3, 4]) (lo' := y_lo i) rfl ?_
  exact k _ _ _ A2 ⟨⟨_, J2⟩, (j_T_J J2).2⟩ (by omega) (by omega)
theorem y_k53 {Γ : q_Γ} (hG : q_GG Γ) {i : Nat} (hi : i + 6 ≤ Γ.2.2.2.1) (hL : Γ.2.2.2.1 ≤ 3072) {h : q_F} (hA : q_Al 0 155 h) (J : t_J h) (E : h 1 1 = h 139 14) {cl sl : Nat} (hc : cl ≤ 3900) (hs : sl ≤ 39000) (k : y_K Γ i cl sl) : q_R Γ q_K 155 369 y_P (1997, y_lo i, [], q_hp q_K 155 h, [], cl, sl) := by
  obtain ⟨S, J⟩ := J
  refine r_aload_n c369_1997 rfl rfl ?_
  refine y_arg c369_1998 c369_1999 c369_2001 c369_2002 c369_2003 rfl rfl rfl hi hL (by decide) ?_
  refine y_arg c369_2004 c369_2005 c369_2007 c369_2008 c369_2009 rfl rfl rfl hi hL (by decide) ?_
  refine y_nz c369_2010 c369_2013 c369_2014 c369_2017 rfl (hG.1 (i + 2)) ?_
  refine r_aload_n c369_2018 rfl rfl ?_
  obtain ⟨v1, g1, e1, J1⟩ := t_L27 (v1 := (Γ.1 (i + 1))) (v2 := (y_nzv (Γ.1 (i + 2)))) hA J
  refine y_cs (a := 1) (b := 6) c369_2019 rfl rfl (by omega) (by omega) rfl rfl (wn27 hG (hG.1 (i + 1)) (y_nz01 (Γ.1 (i + 2))) hA e1) ?_
  intro i1 A1
  refine r_istore c369_2022 (lo' := [(6, (0, v1)), (5, (0, (i : Int))), (0, (9, 0)), (1, (2, Int.ofNat 0)), (2, (2, Int.ofNat 139)), (3, (2, Int.ofNat 153)), (4, (2, Int.ofNat 154))]) rfl rfl rfl ?_
  refine r_aload_n c369_2024 rfl rfl ?_
  refine y_arg c369_2025 c369_2026 c369_2028 c369_2029 c369_2030 rfl rfl rfl hi hL (by decide) ?_
  refine y_arg c369_2031 c369_2032 c369_2034 c369_2035 c369_2036 rfl rfl rfl hi hL (by decide) ?_
  refine y_nz c369_2037 c369_2040 c369_2041 c369_2044 rfl (hG.1 (i + 2)) ?_
  obtain ⟨v2, g2, e2, J2⟩ := t_r_slack (a := (Γ.1 (i + 1))) (v := (y_nzv (Γ.1 (i + 2)))) A1 J1
  refine y_cv (a := 0) (b := 0) c369_2045 (by decide) rfl rfl rfl rfl (by omega) (by omega) rfl rfl (wn334 hG (hG.1 (i + 1)) (y_nz01 (Γ.1 (i + 2))) A1 e2) ?_
  intro i2 A2
  refine r_istore c369_2048 (lo' := [(7, (0, v2)), (6, (0, v1)), (5, (0, (i : Int))), (0, (9, 0)), (1, (2, Int.ofNat 0)), (2, (2, Int.ofNat 139)), (3, (2, Int.ofNat 153)), (4, (2, Int.ofNat 154))]) rfl rfl rfl ?_
  refine r_goto c369_2050 ?_
  refine q_R.wk (ks := [5, 0, 1, 2, 3, 4]) (lo' := y_lo i) rfl ?_
  exact k _ _ _ A2 ⟨⟨_, J2⟩, (j_T_J J2).2⟩ (by omega) (by omega)
theorem y_k54 {Γ : q_Γ} (hG : q_GG Γ) {i : Nat} (hi : i + 6 ≤ Γ.2.2.2.1) (hL : Γ.2.2.2.1 ≤ 3072) {h : q_F} (hA : q_Al 0 155 h) (J : t_J h) (E : h 1 1 = h 139 14) {cl sl : Nat} (hc : cl ≤ 3900) (hs : sl ≤ 39000) (k : y_K Γ i cl sl) : q_R Γ q_K 155 369 y_P (2053, y_lo i, [], q_hp q_K 155 h, [], cl, sl) := by
  obtain ⟨S, J⟩ := J
  refine r_aload_n c369_2053 rfl rfl ?_
  refine y_arg c369_2054 c369_2055 c369_2057 c369_2058 c369_2059 rfl rfl rfl hi hL (by decide) ?_
  refine y_arg c369_2060 c369_2061 c369_2063 c369_2064 c369_2065 rfl rfl rfl hi hL (by decide) ?_
  refine r_aload_n c369_2066 rfl rfl ?_
  obtain ⟨v1, g1, e1, J1⟩ := t_L0 (v1 := (Γ.1 (i + 1))) (v2 := (Γ.1 (i + 2))) hA J
  refine y_cs (a := 2) (b := 12) c369_2067 rfl rfl (by omega) (by omega) rfl rfl (wn0 hG (hG.1 (i + 1)) (hG.1 (i + 2)) hA e1) ?_
  intro i1 A1
  refine r_istore c369_2070 (lo' := [(6, (0, v1)), (5, (0, (i : Int))), (0, (9, 0)), (1, (2, Int.ofNat 0)), (2, (2, Int.ofNat 139)), (3, (2, Int.ofNat 153)), (4, (2, Int.ofNat 154))]) rfl rfl rfl ?_
  refine r_aload_n c369_2072 rfl rfl ?_
  refine y_arg c369_2073 c369_2074 c369_2076 c369_2077 c369_2078 rfl rfl rfl hi hL (by decide) ?_
  refine y_arg c369_2079 c369_2080 c369_2082 c369_2083 c369_2084 rfl rfl rfl hi hL (by decide) ?_
  obtain ⟨v2, g2, e2, J2⟩ := t_r_account (a := (Γ.1 (i + 1))) (v := (Γ.1 (i + 2))) A1 J1
  refine y_cv (a := 0) (b := 0) c369_2085 (by decide) rfl rfl rfl rfl (by omega) (by omega) rfl rfl (wn234 hG (hG.1 (i + 1)) (hG.1 (i + 2)) A1 e2) ?_
  intro i2 A2
  refine r_istore c369_2088 (lo' := [(7, (0, v2)), (6, (0, v1)), (5, (0, (i : Int))), (0, (9, 0)), (1, (2, Int.ofNat 0)), (2, (2, Int.ofNat 139)), (3, (2, Int.ofNat 153)), (4, (2, Int.ofNat 154))]) rfl rfl rfl ?_
  refine r_goto c369_2090 ?_
  refine q_R.wk (ks := [5, 0, 1, 2, 3, 4]) (lo' := y_lo i) rfl ?_
  exact k _ _ _ A2 ⟨⟨_, J2⟩, (j_T_J J2).2⟩ (by omega) (by omega)
theorem y_k55 {Γ : q_Γ} (hG : q_GG Γ) {i : Nat} (hi : i + 6 ≤ Γ.2.2.2.1) (hL : Γ.2.2.2.1 ≤ 3072) {h : q_F} (hA : q_Al 0 155 h) (J : t_J h) (E : h 1 1 = h 139 14) {cl sl : Nat} (hc : cl ≤ 3900) (hs : sl ≤ 39000) (k : y_K Γ i cl sl) : q_R Γ q_K 155 369 y_P (2093, y_lo i, [], q_hp q_K 155 h, [], cl, sl) := by
  obtain ⟨S, J⟩ := J
  refine r_aload_n c369_2093 rfl rfl ?_
  obtain ⟨v1, e1⟩ := c_mdur (h := h) (q_al1 hA rfl (by decide) (by decide)) (q_al1 hA rfl (by decide) (by decide))
  refine y_cp (a := 0) (b := 0) c369_2094 (by decide) rfl rfl rfl rfl (by omega) (by omega) rfl rfl (wn189 hG  hA e1) ?_
  intro i1
  refine r_dstore c369_2097 (lo' := [(6, (5, v1)), (5, (0, (i : Int))), (0, (9, 0)), (1, (2, Int.ofNat 0)), (2, (2, Int.ofNat 139)), (3, (2, Int.ofNat 153)), (4, (2, Int.ofNat 154))]) rfl rfl rfl ?_
  refine r_aload_n c369_2099 rfl rfl ?_
  obtain ⟨v2, g2, e2, J2⟩ := t_r_mdur  hA J
  refine y_cv (a := 0) (b := 0) c369_2100 (by decide) rfl rfl rfl rfl (by omega) (by omega) rfl rfl (wn292 hG  hA e2) ?_
  intro i2 A2
  refine r_dstore c369_2103 (lo' := [(8, (5, v2)), (6, (5, v1)), (5, (0, (i : Int))), (0, (9, 0)), (1, (2, Int.ofNat 0)), (2, (2, Int.ofNat 139)), (3, (2, Int.ofNat 153)), (4, (2, Int.ofNat 154))]) rfl rfl rfl ?_
  refine r_goto c369_2105 ?_
  refine q_R.wk (ks := [5, 0, 1, 2, 3, 4]) (lo' := y_lo i) rfl ?_
  exact k _ _ _ A2 ⟨⟨_, J2⟩, (j_T_J J2).2⟩ (by omega) (by omega)
