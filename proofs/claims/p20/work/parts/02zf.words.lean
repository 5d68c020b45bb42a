/-! Part 02z: the words, gone on with. -/
def q_G_m18 : List Cond := (List.range' 288 16).map q_cw
set_option maxRecDepth 8000 in
theorem q_G_m18_g : GoodIn lw_tbl q_G_m18 := q_gq (q_In1 8 167 rfl (q_In1 8 175 rfl (q_In1 8 171 rfl (q_In1 8 88 rfl (q_In1 9 165 rfl (q_In1 9 88 rfl (q_In1 8 232 rfl (q_In1 9 49 rfl (q_In1 9 53 rfl (q_In1 9 60 rfl (q_In1 7 238 rfl (q_In1 8 125 rfl (q_In1 8 228 rfl (q_In1 9 13 rfl (q_In1 8 7 rfl (q_In1 7 209 rfl (q_In0))))))))))))))))) (by decide +kernel)
def q_G_m19 : List Cond := (List.range' 304 16).map q_cw
set_option maxRecDepth 8000 in
theorem q_G_m19_g : GoodIn lw_tbl q_G_m19 := q_gq (q_In1 9 185 rfl (q_In1 9 113 rfl (q_In1 9 17 rfl (q_In1 9 173 rfl (q_In1 8 97 rfl (q_In1 8 76 rfl (q_In1 9 84 rfl (q_In1 9 105 rfl (q_In1 8 84 rfl (q_In1 9 33 rfl (q_In1 7 179 rfl (q_In1 7 202 rfl (q_In1 7 164 rfl (q_In1 7 160 rfl (q_In1 8 23 rfl (q_In1 8 19 rfl (q_In0))))))))))))))))) (by decide +kernel)
def q_G_m20 : List Cond := (List.range' 320 16).map q_cw
set_option maxRecDepth 8000 in
theorem q_G_m20_g : GoodIn lw_tbl q_G_m20 := q_gq (q_In1 8 39 rfl (q_In1 8 200 rfl (q_In1 9 197 rfl (q_In1 9 79 rfl (q_In1 8 159 rfl (q_In1 8 196 rfl (q_In1 9 193 rfl (q_In1 8 52 rfl (q_In1 8 204 rfl (q_In1 8 212 rfl (q_In1 8 220 rfl (q_In1 8 216 rfl (q_In1 8 208 rfl (q_In1 8 72 rfl (q_In1 9 157 rfl (q_In1 8 47 rfl (q_In0))))))))))))))))) (by decide +kernel)
def q_G_m21 : List Cond := (List.range' 336 16).map q_cw
set_option maxRecDepth 8000 in
theorem q_G_m21_g : GoodIn lw_tbl q_G_m21 := q_gq (q_In1 9 37 rfl (q_In1 9 5 rfl (q_In1 8 183 rfl (q_In1 7 183 rfl (q_In1 8 56 rfl (q_In1 9 9 rfl (q_In1 8 192 rfl (q_In1 8 141 rfl (q_In1 9 41 rfl (q_In1 9 121 rfl (q_In1 8 133 rfl (q_In1 8 137 rfl (q_In1 7 192 rfl (q_In1 8 129 rfl (q_In1 8 224 rfl (q_In1 9 100 rfl (q_In0))))))))))))))))) (by decide +kernel)
def q_G_m22 : List Cond := (List.range' 352 16).map q_cw
set_option maxRecDepth 8000 in
theorem q_G_m22_g : GoodIn lw_tbl q_G_m22 := q_gq (q_In1 8 27 rfl (q_In1 9 96 rfl (q_In1 9 145 rfl (q_In1 7 173 rfl (q_In1 9 64 rfl (q_In1 9 117 rfl (q_In1 7 134 rfl (q_In1 9 68 rfl (q_In1 9 189 rfl (q_In1 8 117 rfl (q_In1 9 109 rfl (q_In1 9 133 rfl (q_In1 9 137 rfl (q_In1 9 125 rfl (q_In1 9 177 rfl (q_In1 9 181 rfl (q_In0))))))))))))))))) (by decide +kernel)
