/-! Part 99cd: cases of the law. Printed by wip/tools/genlaw.py. -/
theorem y_k24 {Γ : q_Γ} (hG : q_GG Γ) {i : Nat} (hi : i + 6 ≤ Γ.2.2.2.1) (hL : Γ.2.2.2.1 ≤ 3072) {h : q_F} (hA : q_Al 0 155 h) (J : t_J h) (E : h 1 1 = h 139 14) {cl sl : Nat} (hc : cl ≤ 3900) (hs : sl ≤ 39000) (k : y_K Γ i cl sl) : q_R Γ q_K 155 369 y_P (1085, y_lo i, [], q_hp q_K 155 h, [], cl, sl) := by
  obtain ⟨S, J⟩ := J
  refine r_aload_n c369_1085 rfl rfl ?_
  refine y_arg c369_1086 c369_1087 c369_1089 c369_1090 c369_1091 rfl rfl rfl hi hL (by decide) ?_
  refine y_arg c369_1092 c369_1093 c369_1095 c369_1096 c369_1097 rfl rfl rfl hi hL (by decide) ?_
  refine y_arg c369_1098 c369_1099 c369_1101 c369_1102 c369_1103 rfl rfl rfl hi hL (by decide) ?_
  refine r_aload_n c369_1104 rfl rfl ?_
  obtain ⟨v1, g1, e1, J1⟩ := t_L30 (v1 := (Γ.1 (i + 1))) (v2 := (Γ.1 (i + 2))) (v3 := (Γ.1 (i + 3))) hA J
  refine y_cs (a := 3) (b := 18) c369_1105 rfl rfl (by omega) (by omega) rfl rfl (wn30 hG (hG.1 (i + 1)) (hG.1 (i + 2)) (hG.1 (i + 3)) hA e1) ?_
  intro i1 A1
  refine r_istore c369_1108 (lo' := [(6, (0, v1)), (5, (0, (i : Int))), (0, (9, 0)), (1, (2, Int.ofNat 0)), (2, (2, Int.ofNat 139)), (3, (2, Int.ofNat 153)), (4, (2, Int.ofNat 154))]) rfl rfl rfl ?_
  refine r_aload_n c369_1110 rfl rfl ?_
  refine y_arg c369_1111 c369_1112 c369_1114 c369_1115 c369_1116 rfl rfl rfl hi hL (by decide) ?_
  refine y_arg c369_1117 c369_1118 c369_1120 c369_1121 c369_1122 rfl rfl rfl hi hL (by decide) ?_
  refine y_arg c369_1123 c369_1124 c369_1126 c369_1127 c369_1128 rfl rfl rfl hi hL (by decide) ?_
  obtain ⟨v2, g2, e2, J2⟩ := t_r_behind (m := (Γ.1 (i + 1))) (a := (Γ.1 (i + 2))) (k := (Γ.1 (i + 3))) A1 J1
  refine y_cv (a := 0) (b := 0) c369_1129 (by decide) rfl rfl rfl rfl (by omega) (by omega) rfl rfl (wn341 hG (hG.1 (i + 1)) (hG.1 (i + 2)) (hG.1 (i + 3)) A1 e2) ?_
  intro i2 A2
  refine r_istore c369_1132 (lo' := [(7, (0, v2)), (6, (0, v1)), (5, (0, (i : Int))), (0, (9, 0)), (1, (2, Int.ofNat 0)), (2, (2, Int.ofNat 139)), (3, (2, Int.ofNat 153)), (4, (2, Int.ofNat 154))]) rfl rfl rfl ?_
  refine r_goto c369_1134 ?_
  refine q_R.wk (ks := [5, 0, 1, 2, 3, 4]) (lo' := y_lo i) rfl ?_
  exact k _ _ _ A2 ⟨⟨_, J2⟩, (j_T_J J2).2⟩ (by omega) (by omega)
theorem y_k25 {Γ : q_Γ} (hG : q_GG Γ) {i : Nat} (hi : i + 6 ≤ Γ.2.2.2.1) (hL : Γ.2.2.2.1 ≤ 3072) {h : q_F} (hA : q_Al 0 155 h) (J : t_J h) (E : h 1 1 = h 139 14) {cl sl : Nat} (hc : cl ≤ 3900) (hs : sl ≤ 39000) (k : y_K Γ i cl sl) : q_R Γ q_K 155 369 y_P (1137, y_lo i, [], q_hp q_K 155 h, [], cl, sl) := by
  obtain ⟨S, J⟩ := J
  refine r_aload_n c369_1137 rfl rfl ?_
  refine y_arg c369_1138 c369_1139 c369_1141 c369_1142 c369_1143 rfl rfl rfl hi hL (by decide) ?_
  refine r_aload c369_1144 rfl rfl ?_
  obtain ⟨v1, g1, e1, J1⟩ := t_L6 (v1 := (Γ.1 (i + 1))) hA J
  refine y_cs (a := 1) (b := 6) c369_1146 rfl rfl (by omega) (by omega) rfl rfl (wn6 hG (hG.1 (i + 1)) hA e1) ?_
  intro i1 A1
  refine r_istore c369_1149 (lo' := [(6, (0, v1)), (5, (0, (i : Int))), (0, (9, 0)), (1, (2, Int.ofNat 0)), (2, (2, Int.ofNat 139)), (3, (2, Int.ofNat 153)), (4, (2, Int.ofNat 154))]) rfl rfl rfl ?_
  refine r_aload_n c369_1151 rfl rfl ?_
  refine y_arg c369_1152 c369_1153 c369_1155 c369_1156 c369_1157 rfl rfl rfl hi hL (by decide) ?_
  obtain ⟨v2, g2, e2, J2⟩ := t_r_dev (m := (Γ.1 (i + 1))) A1 J1
  refine y_cv (a := 0) (b := 0) c369_1158 (by decide) rfl rfl rfl rfl (by omega) (by omega) rfl rfl (wn251 hG (hG.1 (i + 1)) A1 e2) ?_
  intro i2 A2
  refine r_fstore c369_1161 (lo' := [(7, (4, v2)), (6, (0, v1)), (5, (0, (i : Int))), (0, (9, 0)), (1, (2, Int.ofNat 0)), (2, (2, Int.ofNat 139)), (3, (2, Int.ofNat 153)), (4, (2, Int.ofNat 154))]) rfl rfl rfl ?_
  refine r_goto c369_1163 ?_
  refine q_R.wk (ks := [5, 0, 1, 2, 3, 4]) (lo' := y_lo i) rfl ?_
  exact k _ _ _ A2 ⟨⟨_, J2⟩, (j_T_J J2).2⟩ (by omega) (by omega)
theorem y_k26 {Γ : q_Γ} (hG : q_GG Γ) {i : Nat} (hi : i + 6 ≤ Γ.2.2.2.1) (hL : Γ.2.2.2.1 ≤ 3072) {h : q_F} (hA : q_Al 0 155 h) (J : t_J h) (E : h 1 1 = h 139 14) {cl sl : Nat} (hc : cl ≤ 3900) (hs : sl ≤ 39000) (k : y_K Γ i cl sl) : q_R Γ q_K 155 369 y_P (1166, y_lo i, [], q_hp q_K 155 h, [], cl, sl) := by
  obtain ⟨S, J⟩ := J
  refine r_aload_n c369_1166 rfl rfl ?_
  refine r_aload_n c369_1167 rfl rfl ?_
  obtain ⟨v1, g1, e1, J1⟩ := t_L10  hA J
  refine y_cs (a := 2) (b := 12) c369_1168 rfl rfl (by omega) (by omega) rfl rfl (wn10 hG  hA e1) ?_
  intro i1 A1
  refine r_istore c369_1171 (lo' := [(6, (0, v1)), (5, (0, (i : Int))), (0, (9, 0)), (1, (2, Int.ofNat 0)), (2, (2, Int.ofNat 139)), (3, (2, Int.ofNat 153)), (4, (2, Int.ofNat 154))]) rfl rfl rfl ?_
  refine r_aload_n c369_1173 rfl rfl ?_
  obtain ⟨v2, g2, e2, J2⟩ := t_r_homeAllC  A1 J1
  refine y_cv (a := 0) (b := 0) c369_1174 (by decide) rfl rfl rfl rfl (by omega) (by omega) rfl rfl (wn264 hG  A1 e2) ?_
  intro i2 A2
  refine r_istore c369_1177 (lo' := [(7, (0, v2)), (6, (0, v1)), (5, (0, (i : Int))), (0, (9, 0)), (1, (2, Int.ofNat 0)), (2, (2, Int.ofNat 139)), (3, (2, Int.ofNat 153)), (4, (2, Int.ofNat 154))]) rfl rfl rfl ?_
  refine r_goto c369_1179 ?_
  refine q_R.wk (ks := [5, 0, 1, 2, 3, 4]) (lo' := y_lo i) rfl ?_
  exact k _ _ _ A2 ⟨⟨_, J2⟩, (j_T_J J2).2⟩ (by omega) (by omega)
theorem y_k27 {Γ : q_Γ} (hG : q_GG Γ) {i : Nat} (hi : i + 6 ≤ Γ.2.2.2.1) (hL : Γ.2.2.2.1 ≤ 3072) {h : q_F} (hA : q_Al 0 155 h) (J : t_J h) (E : h 1 1 = h 139 14) {cl sl : Nat} (hc : cl ≤ 3900) (hs : sl ≤ 39000) (k : y_K Γ i cl sl) : q_R Γ q_K 155 369 y_P (1182, y_lo i, [], q_hp q_K 155 h, [], cl, sl) := by
  obtain ⟨S, J⟩ := J
  refine r_aload_n c369_1182 rfl rfl ?_
  obtain ⟨v1, g1, e1, J1⟩ := t_c_runAll  hA J
  refine y_cv (a := 0) (b := 0) c369_1183 (by decide) rfl rfl rfl rfl (by omega) (by omega) rfl rfl (wn208 hG  hA e1) ?_
  intro i1 A1
  refine r_pop c369_1186 rfl rfl ?_
  refine r_aload_n c369_1187 rfl rfl ?_
  obtain ⟨v2, g2, e2, J2⟩ := t_r_runAll  A1 J1
  refine y_cv (a := 0) (b := 0) c369_1188 (by decide) rfl rfl rfl rfl (by omega) (by omega) rfl rfl (wn325 hG  A1 e2) ?_
  intro i2 A2
  refine r_pop c369_1191 rfl rfl ?_
  refine r_goto c369_1192 ?_
  refine q_R.wk (ks := [5, 0, 1, 2, 3, 4]) (lo' := y_lo i) rfl ?_
  exact k _ _ _ A2 ⟨⟨_, J2⟩, (j_T_J J2).2⟩ (by omega) (by omega)
theorem y_k28 {Γ : q_Γ} (hG : q_GG Γ) {i : Nat} (hi : i + 6 ≤ Γ.2.2.2.1) (hL : Γ.2.2.2.1 ≤ 3072) {h : q_F} (hA : q_Al 0 155 h) (J : t_J h) (E : h 1 1 = h 139 14) {cl sl : Nat} (hc : cl ≤ 3900) (hs : sl ≤ 39000) (k : y_K Γ i cl sl) : q_R Γ q_K 155 369 y_P (1195, y_lo i, [], q_hp q_K 155 h, [], cl, sl) := by
  obtain ⟨S, J⟩ := J
  refine r_aload_n c369_1195 rfl rfl ?_
  refine y_arg c369_1196 c369_1197 c369_1199 c369_1200 c369_1201 rfl rfl rfl hi hL (by decide) ?_
  refine y_arg c369_1202 c369_1203 c369_1205 c369_1206 c369_1207 rfl rfl rfl hi hL (by decide) ?_
  refine y_arg c369_1208 c369_1209 c369_1211 c369_1212 c369_1213 rfl rfl rfl hi hL (by decide) ?_
  refine y_arg c369_1214 c369_1215 c369_1217 c369_1218 c369_1219 rfl rfl rfl hi hL (by decide) ?_
  refine r_aload_n c369_1220 rfl rfl ?_
  obtain ⟨v1, g1, e1, J1⟩ := t_L11 (v1 := (Γ.1 (i + 1))) (v2 := (Γ.1 (i + 2))) (v3 := (Γ.1 (i + 3))) (v4 := (Γ.1 (i + 4))) hA J
  refine y_cs (a := 6) (b := 36) c369_1221 rfl rfl (by omega) (by omega) rfl rfl (wn11 hG (hG.1 (i + 1)) (hG.1 (i + 2)) (hG.1 (i + 3)) (hG.1 (i + 4)) hA e1) ?_
  intro i1 A1
  refine r_istore c369_1224 (lo' := [(6, (0, v1)), (5, (0, (i : Int))), (0, (9, 0)), (1, (2, Int.ofNat 0)), (2, (2, Int.ofNat 139)), (3, (2, Int.ofNat 153)), (4, (2, Int.ofNat 154))]) rfl rfl rfl ?_
  refine r_aload_n c369_1226 rfl rfl ?_
  refine y_arg c369_1227 c369_1228 c369_1230 c369_1231 c369_1232 rfl rfl rfl hi hL (by decide) ?_
  refine y_arg c369_1233 c369_1234 c369_1236 c369_1237 c369_1238 rfl rfl rfl hi hL (by decide) ?_
  refine y_arg c369_1239 c369_1240 c369_1242 c369_1243 c369_1244 rfl rfl rfl hi hL (by decide) ?_
  refine y_arg c369_1245 c369_1246 c369_1248 c369_1249 c369_1250 rfl rfl rfl hi hL (by decide) ?_
  obtain ⟨v2, g2, e2, J2⟩ := t_r_insertC (i := (Γ.1 (i + 1))) (x := (Γ.1 (i + 2))) (y := (Γ.1 (i + 3))) (z := (Γ.1 (i + 4))) A1 J1
  refine y_cv (a := 0) (b := 0) c369_1251 (by decide) rfl rfl rfl rfl (by omega) (by omega) rfl rfl (wn269 hG (hG.1 (i + 1)) (hG.1 (i + 2)) (hG.1 (i + 3)) (hG.1 (i + 4)) A1 e2) ?_
  intro i2 A2
  refine r_istore c369_1254 (lo' := [(7, (0, v2)), (6, (0, v1)), (5, (0, (i : Int))), (0, (9, 0)), (1, (2, Int.ofNat 0)), (2, (2, Int.ofNat 139)), (3, (2, Int.ofNat 153)), (4, (2, Int.ofNat 154))]) rfl rfl rfl ?_
  refine r_goto c369_1256 ?_
  refine q_R.wk (ks := [5, 0, 1, 2, 3, 4]) (lo' := y_lo i) rfl ?_
  exact k _ _ _ A2 ⟨⟨_, J2⟩, (j_T_J J2).2⟩ (by omega) (by omega)
theorem y_k29 {Γ : q_Γ} (hG : q_GG Γ) {i : Nat} (hi : i + 6 ≤ Γ.2.2.2.1) (hL : Γ.2.2.2.1 ≤ 3072) {h : q_F} (hA : q_Al 0 155 h) (J : t_J h) (E : h 1 1 = h 139 14) {cl sl : Nat} (hc : cl ≤ 3900) (hs : sl ≤ 39000) (k : y_K Γ i cl sl) : q_R Γ q_K 155 369 y_P (1259, y_lo i, [], q_hp q_K 155 h, [], cl, sl) := by
  obtain ⟨S, J⟩ := J
  refine r_aload_n c369_1259 rfl rfl ?_
  refine y_arg c369_1260 c369_1261 c369_1263 c369_1264 c369_1265 rfl rfl rfl hi hL (by decide) ?_
  refine r_aload_n c369_1266 rfl rfl ?_
  obtain ⟨v1, g1, e1, J1⟩ := t_L7 (v1 := (Γ.1 (i + 1))) hA J
  refine y_cs (a := 2) (b := 12) c369_1267 rfl rfl (by omega) (by omega) rfl rfl (wn7 hG (hG.1 (i + 1)) hA e1) ?_
  intro i1 A1
  refine r_istore c369_1270 (lo' := [(6, (0, v1)), (5, (0, (i : Int))), (0, (9, 0)), (1, (2, Int.ofNat 0)), (2, (2, Int.ofNat 139)), (3, (2, Int.ofNat 153)), (4, (2, Int.ofNat 154))]) rfl rfl rfl ?_
  refine r_aload_n c369_1272 rfl rfl ?_
  refine y_arg c369_1273 c369_1274 c369_1276 c369_1277 c369_1278 rfl rfl rfl hi hL (by decide) ?_
  obtain ⟨v2, g2, e2, J2⟩ := t_r_dropC (m := (Γ.1 (i + 1))) A1 J1
  refine y_cv (a := 0) (b := 0) c369_1279 (by decide) rfl rfl rfl rfl (by omega) (by omega) rfl rfl (wn252 hG (hG.1 (i + 1)) A1 e2) ?_
  intro i2 A2
  refine r_istore c369_1282 (lo' := [(7, (0, v2)), (6, (0, v1)), (5, (0, (i : Int))), (0, (9, 0)), (1, (2, Int.ofNat 0)), (2, (2, Int.ofNat 139)), (3, (2, Int.ofNat 153)), (4, (2, Int.ofNat 154))]) rfl rfl rfl ?_
  refine r_goto c369_1284 ?_
  refine q_R.wk (ks := [5, 0, 1, 2, 3, 4]) (lo' := y_lo i) rfl ?_
  exact k _ _ _ A2 ⟨⟨_, J2⟩, (j_T_J J2).2⟩ (by omega) (by omega)
theorem y_k30 {Γ : q_Γ} (hG : q_GG Γ) {i : Nat} (hi : i + 6 ≤ Γ.2.2.2.1) (hL : Γ.2.2.2.1 ≤ 3072) {h : q_F} (hA : q_Al 0 155 h) (J : t_J h) (E : h 1 1 = h 139 14) {cl sl : Nat} (hc : cl ≤ 3900) (hs : sl ≤ 39000) (k : y_K Γ i cl sl) : q_R Γ q_K 155 369 y_P (1287, y_lo i, [], q_hp q_K 155 h, [], cl, sl) := by
  obtain ⟨S, J⟩ := J
  refine r_aload_n c369_1287 rfl rfl ?_
  refine y_arg c369_1288 c369_1289 c369_1291 c369_1292 c369_1293 rfl rfl rfl hi hL (by decide) ?_
  refine y_arg c369_1294 c369_1295 c369_1297 c369_1298 c369_1299 rfl rfl rfl hi hL (by decide) ?_
  refine r_aload_n c369_1300 rfl rfl ?_
  obtain ⟨v1, g1, e1, J1⟩ := t_L32 (v1 := (Γ.1 (i + 1))) (v2 := (Γ.1 (i + 2))) hA J
  refine y_cs (a := 3) (b := 18) c369_1301 rfl rfl (by omega) (by omega) rfl rfl (wn32 hG (hG.1 (i + 1)) (hG.1 (i + 2)) hA e1) ?_
  intro i1 A1
  refine r_istore c369_1304 (lo' := [(6, (0, v1)), (5, (0, (i : Int))), (0, (9, 0)), (1, (2, Int.ofNat 0)), (2, (2, Int.ofNat 139)), (3, (2, Int.ofNat 153)), (4, (2, Int.ofNat 154))]) rfl rfl rfl ?_
  refine r_aload_n c369_1306 rfl rfl ?_
  refine y_arg c369_1307 c369_1308 c369_1310 c369_1311 c369_1312 rfl rfl rfl hi hL (by decide) ?_
  refine y_arg c369_1313 c369_1314 c369_1316 c369_1317 c369_1318 rfl rfl rfl hi hL (by decide) ?_
  obtain ⟨v2, g2, e2, J2⟩ := t_r_swapC (m := (Γ.1 (i + 1))) (o := (Γ.1 (i + 2))) A1 J1
  refine y_cv (a := 0) (b := 0) c369_1319 (by decide) rfl rfl rfl rfl (by omega) (by omega) rfl rfl (wn346 hG (hG.1 (i + 1)) (hG.1 (i + 2)) A1 e2) ?_
  intro i2 A2
  refine r_istore c369_1322 (lo' := [(7, (0, v2)), (6, (0, v1)), (5, (0, (i : Int))), (0, (9, 0)), (1, (2, Int.ofNat 0)), (2, (2, Int.ofNat 139)), (3, (2, Int.ofNat 153)), (4, (2, Int.ofNat 154))]) rfl rfl rfl ?_
  refine r_goto c369_1324 ?_
  refine q_R.wk (ks := [5, 0, 1, 2, 3, 4]) (lo' := y_lo i) rfl ?_
  exact k _ _ _ A2 ⟨⟨_, J2⟩, (j_T_J J2).2⟩ (by omega) (by omega)
theorem y_k31 {Γ : q_Γ} (hG : q_GG Γ) {i : Nat} (hi : i + 6 ≤ Γ.2.2.2.1) (hL : Γ.2.2.2.1 ≤ 3072) {h : q_F} (hA : q_Al 0 155 h) (J : t_J h) (E : h 1 1 = h 139 14) {cl sl : Nat} (hc : cl ≤ 3900) (hs : sl ≤ 39000) (k : y_K Γ i cl sl) : q_R Γ q_K 155 369 y_P (1327, y_lo i, [], q_hp q_K 155 h, [], cl, sl) := by
  obtain ⟨S, J⟩ := J
  refine r_aload_n c369_1327 rfl rfl ?_
  refine y_arg c369_1328 c369_1329 c369_1331 c369_1332 c369_1333 rfl rfl rfl hi hL (by decide) ?_
  refine y_arg c369_1334 c369_1335 c369_1337 c369_1338 c369_1339 rfl rfl rfl hi hL (by decide) ?_
  refine y_arg c369_1340 c369_1341 c369_1343 c369_1344 c369_1345 rfl rfl rfl hi hL (by decide) ?_
  refine r_aload_n c369_1346 rfl rfl ?_
  obtain ⟨v1, g1, e1, J1⟩ := t_L19 (v1 := (Γ.1 (i + 1))) (v2 := (Γ.1 (i + 2))) (v3 := (Γ.1 (i + 3))) hA J
  refine y_cs (a := 3) (b := 18) c369_1347 rfl rfl (by omega) (by omega) rfl rfl (wn19 hG (hG.1 (i + 1)) (hG.1 (i + 2)) (hG.1 (i + 3)) hA e1) ?_
  intro i1 A1
  refine r_istore c369_1350 (lo' := [(6, (0, v1)), (5, (0, (i : Int))), (0, (9, 0)), (1, (2, Int.ofNat 0)), (2, (2, Int.ofNat 139)), (3, (2, Int.ofNat 153)), (4, (2, Int.ofNat 154))]) rfl rfl rfl ?_
  refine r_aload_n c369_1352 rfl rfl ?_
  refine y_arg c369_1353 c369_1354 c369_1356 c369_1357 c369_1358 rfl rfl rfl hi hL (by decide) ?_
  refine y_arg c369_1359 c369_1360 c369_1362 c369_1363 c369_1364 rfl rfl rfl hi hL (by decide) ?_
  refine y_arg c369_1365 c369_1366 c369_1368 c369_1369 c369_1370 rfl rfl rfl hi hL (by decide) ?_
  obtain ⟨v2, g2, e2, J2⟩ := t_r_pointAt (m := (Γ.1 (i + 1))) (a := (Γ.1 (i + 2))) (k := (Γ.1 (i + 3))) A1 J1
  refine y_cv (a := 0) (b := 0) c369_1371 (by decide) rfl rfl rfl rfl (by omega) (by omega) rfl rfl (wn306 hG (hG.1 (i + 1)) (hG.1 (i + 2)) (hG.1 (i + 3)) A1 e2) ?_
  intro i2 A2
  refine r_istore c369_1374 (lo' := [(7, (0, v2)), (6, (0, v1)), (5, (0, (i : Int))), (0, (9, 0)), (1, (2, Int.ofNat 0)), (2, (2, Int.ofNat 139)), (3, (2, Int.ofNat 153)), (4, (2, Int.ofNat 154))]) rfl rfl rfl ?_
  refine r_goto c369_1376 ?_
  refine q_R.wk (ks := [5, 0, 1, 2, 3, 4]) (lo' := y_lo i) rfl ?_
  exact k _ _ _ A2 ⟨⟨_, J2⟩, (j_T_J J2).2⟩ (by omega) (by omega)
