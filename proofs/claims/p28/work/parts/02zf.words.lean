/-! Part 02z: the words, gone on with. -/
def q_G_m18 : List Cond := (List.range' 288 16).map q_cw
set_option maxRecDepth 8000 in
theorem q_G_m18_g : GoodIn lw_tbl q_G_m18 := q_gq (q_In1 8 171 rfl (q_In1 8 179 rfl (q_In1 8 175 rfl (q_In1 8 92 rfl (q_In1 9 169 rfl (q_In1 9 92 rfl (q_In1 8 236 rfl (q_In1 9 53 rfl (q_In1 9 57 rfl (q_In1 9 64 rfl (q_In1 8 2 rfl (q_In1 8 129 rfl (q_In1 8 232 rfl (q_In1 9 17 rfl (q_In1 8 11 rfl (q_In1 7 213 rfl (q_In0))))))))))))))))) (by decide +kernel)
def q_G_m19 : List Cond := (List.range' 304 16).map q_cw
set_option maxRecDepth 8000 in
theorem q_G_m19_g : GoodIn lw_tbl q_G_m19 := q_gq (q_In1 9 189 rfl (q_In1 9 117 rfl (q_In1 9 21 rfl (q_In1 9 177 rfl (q_In1 8 101 rfl (q_In1 8 80 rfl (q_In1 9 88 rfl (q_In1 9 109 rfl (q_In1 8 88 rfl (q_In1 9 37 rfl (q_In1 7 183 rfl (q_In1 7 206 rfl (q_In1 7 168 rfl (q_In1 7 164 rfl (q_In1 8 27 rfl (q_In1 8 23 rfl (q_In0))))))))))))))))) (by decide +kernel)
def q_G_m20 : List Cond := (List.range' 320 16).map q_cw
set_option maxRecDepth 8000 in
theorem q_G_m20_g : GoodIn lw_tbl q_G_m20 := q_gq (q_In1 8 43 rfl (q_In1 8 204 rfl (q_In1 9 201 rfl (q_In1 9 83 rfl (q_In1 8 163 rfl (q_In1 8 200 rfl (q_In1 9 197 rfl (q_In1 8 56 rfl (q_In1 8 208 rfl (q_In1 8 216 rfl (q_In1 8 224 rfl (q_In1 8 220 rfl (q_In1 8 212 rfl (q_In1 8 76 rfl (q_In1 9 161 rfl (q_In1 8 51 rfl (q_In0))))))))))))))))) (by decide +kernel)
def q_G_m21 : List Cond := (List.range' 336 16).map q_cw
set_option maxRecDepth 8000 in
theorem q_G_m21_g : GoodIn lw_tbl q_G_m21 := q_gq (q_In1 9 41 rfl (q_In1 9 9 rfl (q_In1 8 187 rfl (q_In1 7 187 rfl (q_In1 8 60 rfl (q_In1 9 13 rfl (q_In1 8 196 rfl (q_In1 8 145 rfl (q_In1 9 45 rfl (q_In1 9 125 rfl (q_In1 8 137 rfl (q_In1 8 141 rfl (q_In1 7 196 rfl (q_In1 8 133 rfl (q_In1 8 228 rfl (q_In1 9 104 rfl (q_In0))))))))))))))))) (by decide +kernel)
def q_G_m22 : List Cond := (List.range' 352 17).map q_cw
set_option maxRecDepth 8000 in
theorem q_G_m22_g : GoodIn lw_tbl q_G_m22 := q_gq (q_In1 8 31 rfl (q_In1 9 100 rfl (q_In1 9 149 rfl (q_In1 7 177 rfl (q_In1 9 68 rfl (q_In1 9 121 rfl (q_In1 7 138 rfl (q_In1 9 72 rfl (q_In1 9 193 rfl (q_In1 8 121 rfl (q_In1 9 113 rfl (q_In1 9 137 rfl (q_In1 9 141 rfl (q_In1 9 129 rfl (q_In1 9 181 rfl (q_In1 9 185 rfl (q_In1 7 126 rfl (q_In0)))))))))))))))))) (by decide +kernel)
