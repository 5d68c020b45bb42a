/-! Part 02z: the words, gone on with. -/
def q_G_m12 : List Cond := (List.range' 192 16).map q_cw
set_option maxRecDepth 8000 in
theorem q_G_m12_g : GoodIn lw_tbl q_G_m12 := q_gq (q_In1 4 37 rfl (q_In1 6 128 rfl (q_In1 4 136 rfl (q_In1 3 116 rfl (q_In1 6 85 rfl (q_In1 4 125 rfl (q_In1 5 133 rfl (q_In1 4 54 rfl (q_In1 4 63 rfl (q_In1 3 155 rfl (q_In1 6 97 rfl (q_In1 4 121 rfl (q_In1 5 72 rfl (q_In1 3 67 rfl (q_In1 7 16 rfl (q_In1 5 198 rfl (q_In0))))))))))))))))) (by decide +kernel)
def q_G_m13 : List Cond := (List.range' 208 16).map q_cw
set_option maxRecDepth 8000 in
theorem q_G_m13_g : GoodIn lw_tbl q_G_m13 := q_gq (q_In1 3 112 rfl (q_In1 4 149 rfl (q_In1 3 104 rfl (q_In1 3 108 rfl (q_In1 5 215 rfl (q_In1 5 207 rfl (q_In1 6 227 rfl (q_In1 6 108 rfl (q_In1 6 14 rfl (q_In1 6 24 rfl (q_In1 4 29 rfl (q_In1 6 198 rfl (q_In1 6 74 rfl (q_In1 5 158 rfl (q_In1 5 223 rfl (q_In1 3 63 rfl (q_In0))))))))))))))))) (by decide +kernel)
def q_G_m14 : List Cond := (List.range' 224 16).map q_cw
set_option maxRecDepth 8000 in
theorem q_G_m14_g : GoodIn lw_tbl q_G_m14 := q_gq (q_In1 6 181 rfl (q_In1 6 159 rfl (q_In1 2 125 rfl (q_In1 6 190 rfl (q_In1 4 141 rfl (q_In1 5 171 rfl (q_In1 6 144 rfl (q_In1 6 206 rfl (q_In1 6 213 rfl (q_In1 4 84 rfl (q_In1 9 165 rfl (q_In1 7 152 rfl (q_In1 8 73 rfl (q_In1 7 130 rfl (q_In1 7 134 rfl (q_In1 7 238 rfl (q_In0))))))))))))))))) (by decide +kernel)
def q_G_m15 : List Cond := (List.range' 240 16).map q_cw
set_option maxRecDepth 8000 in
theorem q_G_m15_g : GoodIn lw_tbl q_G_m15 := q_gq (q_In1 8 109 rfl (q_In1 8 97 rfl (q_In1 9 145 rfl (q_In1 9 157 rfl (q_In1 9 49 rfl (q_In1 7 156 rfl (q_In1 7 27 rfl (q_In1 7 36 rfl (q_In1 8 7 rfl (q_In1 7 148 rfl (q_In1 7 225 rfl (q_In1 9 25 rfl (q_In1 8 125 rfl (q_In1 8 113 rfl (q_In1 8 15 rfl (q_In1 7 217 rfl (q_In0))))))))))))))))) (by decide +kernel)
def q_G_m16 : List Cond := (List.range' 256 16).map q_cw
set_option maxRecDepth 8000 in
theorem q_G_m16_g : GoodIn lw_tbl q_G_m16 := q_gq (q_In1 8 19 rfl (q_In1 7 221 rfl (q_In1 7 230 rfl (q_In1 7 191 rfl (q_In1 9 60 rfl (q_In1 9 5 rfl (q_In1 9 1 rfl (q_In1 8 35 rfl (q_In1 8 65 rfl (q_In1 7 234 rfl (q_In1 8 47 rfl (q_In1 7 141 rfl (q_In1 7 22 rfl (q_In1 8 117 rfl (q_In1 8 39 rfl (q_In1 8 84 rfl (q_In0))))))))))))))))) (by decide +kernel)
def q_G_m17 : List Cond := (List.range' 272 16).map q_cw
set_option maxRecDepth 8000 in
theorem q_G_m17_g : GoodIn lw_tbl q_G_m17 := q_gq (q_In1 8 159 rfl (q_In1 7 173 rfl (q_In1 8 69 rfl (q_In1 8 183 rfl (q_In1 9 96 rfl (q_In1 8 153 rfl (q_In1 8 149 rfl (q_In1 8 105 rfl (q_In1 9 153 rfl (q_In1 9 76 rfl (q_In1 9 80 rfl (q_In1 7 145 rfl (q_In1 9 133 rfl (q_In1 9 173 rfl (q_In1 8 191 rfl (q_In1 8 167 rfl (q_In0))))))))))))))))) (by decide +kernel)
