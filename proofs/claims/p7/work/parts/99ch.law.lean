/-! Part 99ch: cases of the law. Printed by wip/tools/genlaw.py. -/
theorem y_k56 {Γ : q_Γ} (hG : q_GG Γ) {i : Nat} (hi : i + 6 ≤ Γ.2.2.2.1) (hL : Γ.2.2.2.1 ≤ 3072) {h : q_F} (hA : q_Al 0 155 h) (J : t_J h) (E : h 1 1 = h 139 14) {cl sl : Nat} (hc : cl ≤ 3900) (hs : sl ≤ 39000) (k : y_K Γ i cl sl) : q_R Γ q_K 155 369 y_P (2108, y_lo i, [], q_hp q_K 155 h, [], cl, sl) := by
  obtain ⟨S, J⟩ := J
  refine r_aload_n c369_2108 rfl rfl ?_
  refine y_arg c369_2109 c369_2110 c369_2112 c369_2113 c369_2114 rfl rfl rfl hi hL (by decide) ?_
  refine r_aload c369_2115 rfl rfl ?_
  obtain ⟨v1, g1, e1, J1⟩ := t_L15 (v1 := (Γ.1 (i + 1))) hA J
  refine y_cs (a := 1) (b := 6) c369_2117 rfl rfl (by omega) (by omega) rfl rfl (wn15 hG (hG.1 (i + 1)) hA e1) ?_
  intro i1 A1
  refine r_istore c369_2120 (lo' := [(6, (0, v1)), (5, (0, (i : Int))), (0, (9, 0)), (1, (2, Int.ofNat 0)), (2, (2, Int.ofNat 139)), (3, (2, Int.ofNat 153)), (4, (2, Int.ofNat 154))]) rfl rfl rfl ?_
  refine r_aload_n c369_2122 rfl rfl ?_
  refine y_arg c369_2123 c369_2124 c369_2126 c369_2127 c369_2128 rfl rfl rfl hi hL (by decide) ?_
  obtain ⟨v2, g2, e2, J2⟩ := t_r_lost2 (a := (Γ.1 (i + 1))) A1 J1
  refine y_cv (a := 0) (b := 0) c369_2129 (by decide) rfl rfl rfl rfl (by omega) (by omega) rfl rfl (wn285 hG (hG.1 (i + 1)) A1 e2) ?_
  intro i2 A2
  refine r_fstore c369_2132 (lo' := [(7, (4, v2)), (6, (0, v1)), (5, (0, (i : Int))), (0, (9, 0)), (1, (2, Int.ofNat 0)), (2, (2, Int.ofNat 139)), (3, (2, Int.ofNat 153)), (4, (2, Int.ofNat 154))]) rfl rfl rfl ?_
  refine r_goto c369_2134 ?_
  refine q_R.wk (ks := [5, 0, 1, 2, 3, 4]) (lo' := y_lo i) rfl ?_
  exact k _ _ _ A2 ⟨⟨_, J2⟩, (j_T_J J2).2⟩ (by omega) (by omega)
theorem y_k57 {Γ : q_Γ} (hG : q_GG Γ) {i : Nat} (hi : i + 6 ≤ Γ.2.2.2.1) (hL : Γ.2.2.2.1 ≤ 3072) {h : q_F} (hA : q_Al 0 155 h) (J : t_J h) (E : h 1 1 = h 139 14) {cl sl : Nat} (hc : cl ≤ 3900) (hs : sl ≤ 39000) (k : y_K Γ i cl sl) : q_R Γ q_K 155 369 y_P (2137, y_lo i, [], q_hp q_K 155 h, [], cl, sl) := by
  obtain ⟨S, J⟩ := J
  refine r_aload_n c369_2137 rfl rfl ?_
  obtain ⟨v1, g1, e1, J1⟩ := t_c_print  hA J
  refine y_cv (a := 0) (b := 0) c369_2138 (by decide) rfl rfl rfl rfl (by omega) (by omega) rfl rfl (wn197 hG  hA e1) ?_
  intro i1 A1
  refine r_pop c369_2141 rfl rfl ?_
  refine r_aload_n c369_2142 rfl rfl ?_
  obtain ⟨v2, g2, e2, J2⟩ := t_print   J1
  refine y_cv (a := 0) (b := 0) c369_2143 (by decide) rfl rfl rfl rfl (by omega) (by omega) rfl rfl (wn307 hG  A1 e2) ?_
  intro i2 A2
  refine r_pop c369_2146 rfl rfl ?_
  refine r_goto c369_2147 ?_
  refine q_R.wk (ks := [5, 0, 1, 2, 3, 4]) (lo' := y_lo i) rfl ?_
  exact k _ _ _ A2 ⟨⟨_, J2⟩, (j_T_J J2).2⟩ (by omega) (by omega)
theorem y_k58 {Γ : q_Γ} (hG : q_GG Γ) {i : Nat} (hi : i + 6 ≤ Γ.2.2.2.1) (hL : Γ.2.2.2.1 ≤ 3072) {h : q_F} (hA : q_Al 0 155 h) (J : t_J h) (E : h 1 1 = h 139 14) {cl sl : Nat} (hc : cl ≤ 3900) (hs : sl ≤ 39000) (k : y_K Γ i cl sl) : q_R Γ q_K 155 369 y_P (2150, y_lo i, [], q_hp q_K 155 h, [], cl, sl) := by
  obtain ⟨S, J⟩ := J
  refine r_aload_n c369_2150 rfl rfl ?_
  refine y_arg c369_2151 c369_2152 c369_2154 c369_2155 c369_2156 rfl rfl rfl hi hL (by decide) ?_
  obtain ⟨v1, e1⟩ := c_outByte (Γ.1 (i + 1)) h
  refine y_cp (a := 0) (b := 0) c369_2157 (by decide) rfl rfl rfl rfl (by omega) (by omega) rfl rfl (wn194 hG (hG.1 (i + 1)) hA e1) ?_
  intro i1
  refine r_pop c369_2160 rfl rfl ?_
  refine r_aload_n c369_2161 rfl rfl ?_
  refine y_arg c369_2162 c369_2163 c369_2165 c369_2166 c369_2167 rfl rfl rfl hi hL (by decide) ?_
  obtain ⟨v2, g2, e2, J2⟩ := t_r_outByte (v := (Γ.1 (i + 1))) hA J
  refine y_cv (a := 0) (b := 0) c369_2168 (by decide) rfl rfl rfl rfl (by omega) (by omega) rfl rfl (wn304 hG (hG.1 (i + 1)) hA e2) ?_
  intro i2 A2
  refine r_pop c369_2171 rfl rfl ?_
  refine r_goto c369_2172 ?_
  refine q_R.wk (ks := [5, 0, 1, 2, 3, 4]) (lo' := y_lo i) rfl ?_
  exact k _ _ _ A2 ⟨⟨_, J2⟩, (j_T_J J2).2⟩ (by omega) (by omega)
theorem y_k59 {Γ : q_Γ} (hG : q_GG Γ) {i : Nat} (hi : i + 6 ≤ Γ.2.2.2.1) (hL : Γ.2.2.2.1 ≤ 3072) {h : q_F} (hA : q_Al 0 155 h) (J : t_J h) (E : h 1 1 = h 139 14) {cl sl : Nat} (hc : cl ≤ 3900) (hs : sl ≤ 39000) (k : y_K Γ i cl sl) : q_R Γ q_K 155 369 y_P (2175, y_lo i, [], q_hp q_K 155 h, [], cl, sl) := by
  obtain ⟨S, J⟩ := J
  refine r_aload_n c369_2175 rfl rfl ?_
  obtain ⟨v1, g1, e1, J1⟩ := t_c_undo  hA J
  refine y_cv (a := 0) (b := 0) c369_2176 (by decide) rfl rfl rfl rfl (by omega) (by omega) rfl rfl (wn228 hG  hA e1) ?_
  intro i1 A1
  refine r_pop c369_2179 rfl rfl ?_
  refine r_aload_n c369_2180 rfl rfl ?_
  obtain ⟨v2, g2, e2, J2⟩ := t_r_undo  A1 J1
  refine y_cv (a := 0) (b := 0) c369_2181 (by decide) rfl rfl rfl rfl (by omega) (by omega) rfl rfl (wn360 hG  A1 e2) ?_
  intro i2 A2
  refine r_pop c369_2184 rfl rfl ?_
  refine r_goto c369_2185 ?_
  refine q_R.wk (ks := [5, 0, 1, 2, 3, 4]) (lo' := y_lo i) rfl ?_
  exact k _ _ _ A2 ⟨⟨_, J2⟩, (j_T_J J2).2⟩ (by omega) (by omega)
theorem y_k60 {Γ : q_Γ} (hG : q_GG Γ) {i : Nat} (hi : i + 6 ≤ Γ.2.2.2.1) (hL : Γ.2.2.2.1 ≤ 3072) {h : q_F} (hA : q_Al 0 155 h) (J : t_J h) (E : h 1 1 = h 139 14) {cl sl : Nat} (hc : cl ≤ 3900) (hs : sl ≤ 39000) (k : y_K Γ i cl sl) : q_R Γ q_K 155 369 y_P (2188, y_lo i, [], q_hp q_K 155 h, [], cl, sl) := by
  obtain ⟨S, J⟩ := J
  refine r_aload_n c369_2188 rfl rfl ?_
  obtain ⟨v1, g1, e1, J1⟩ := t_c_save  hA J
  refine y_cv (a := 0) (b := 0) c369_2189 (by decide) rfl rfl rfl rfl (by omega) (by omega) rfl rfl (wn209 hG  hA e1) ?_
  intro i1 A1
  refine r_pop c369_2192 rfl rfl ?_
  refine r_aload_n c369_2193 rfl rfl ?_
  obtain ⟨v2, g2, e2, J2⟩ := t_r_save  A1 J1
  refine y_cv (a := 0) (b := 0) c369_2194 (by decide) rfl rfl rfl rfl (by omega) (by omega) rfl rfl (wn326 hG  A1 e2) ?_
  intro i2 A2
  refine r_pop c369_2197 rfl rfl ?_
  refine r_goto c369_2198 ?_
  refine q_R.wk (ks := [5, 0, 1, 2, 3, 4]) (lo' := y_lo i) rfl ?_
  exact k _ _ _ A2 ⟨⟨_, J2⟩, (j_T_J J2).2⟩ (by omega) (by omega)
theorem y_k61 {Γ : q_Γ} (hG : q_GG Γ) {i : Nat} (hi : i + 6 ≤ Γ.2.2.2.1) (hL : Γ.2.2.2.1 ≤ 3072) {h : q_F} (hA : q_Al 0 155 h) (J : t_J h) (E : h 1 1 = h 139 14) {cl sl : Nat} (hc : cl ≤ 3900) (hs : sl ≤ 39000) (k : y_K Γ i cl sl) : q_R Γ q_K 155 369 y_P (2201, y_lo i, [], q_hp q_K 155 h, [], cl, sl) := by
  obtain ⟨S, J⟩ := J
  refine r_aload_n c369_2201 rfl rfl ?_
  refine r_aload_n c369_2202 rfl rfl ?_
  obtain ⟨v1, g1, e1, J1⟩ := t_L23  hA J
  refine y_cs (a := 1) (b := 6) c369_2203 rfl rfl (by omega) (by omega) rfl rfl (wn23 hG  hA e1) ?_
  intro i1 A1
  refine r_istore c369_2206 (lo' := [(6, (0, v1)), (5, (0, (i : Int))), (0, (9, 0)), (1, (2, Int.ofNat 0)), (2, (2, Int.ofNat 139)), (3, (2, Int.ofNat 153)), (4, (2, Int.ofNat 154))]) rfl rfl rfl ?_
  refine r_aload_n c369_2208 rfl rfl ?_
  obtain ⟨v2, g2, e2, J2⟩ := t_r_rest  A1 J1
  refine y_cv (a := 0) (b := 0) c369_2209 (by decide) rfl rfl rfl rfl (by omega) (by omega) rfl rfl (wn322 hG  A1 e2) ?_
  intro i2 A2
  refine r_istore c369_2212 (lo' := [(7, (0, v2)), (6, (0, v1)), (5, (0, (i : Int))), (0, (9, 0)), (1, (2, Int.ofNat 0)), (2, (2, Int.ofNat 139)), (3, (2, Int.ofNat 153)), (4, (2, Int.ofNat 154))]) rfl rfl rfl ?_
  refine r_goto c369_2214 ?_
  refine q_R.wk (ks := [5, 0, 1, 2, 3, 4]) (lo' := y_lo i) rfl ?_
  exact k _ _ _ A2 ⟨⟨_, J2⟩, (j_T_J J2).2⟩ (by omega) (by omega)
