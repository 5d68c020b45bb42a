/-! Part 02z: the words, gone on with. -/
def q_G_m0 : List Cond := (List.range' 0 16).map q_cw
set_option maxRecDepth 8000 in
theorem q_G_m0_g : GoodIn lw_tbl q_G_m0 := q_gq (q_In1 6 234 rfl (q_In1 4 232 rfl (q_In1 6 216 rfl (q_In1 6 115 rfl (q_In1 5 29 rfl (q_In1 4 152 rfl (q_In1 6 32 rfl (q_In1 6 63 rfl (q_In1 5 57 rfl (q_In1 5 79 rfl (q_In1 6 48 rfl (q_In1 6 55 rfl (q_In1 5 116 rfl (q_In1 6 132 rfl (q_In1 6 162 rfl (q_In1 7 5 rfl (q_In0))))))))))))))))) (by decide +kernel)
def q_G_m1 : List Cond := (List.range' 16 16).map q_cw
set_option maxRecDepth 8000 in
theorem q_G_m1_g : GoodIn lw_tbl q_G_m1 := q_gq (q_In1 6 169 rfl (q_In1 5 231 rfl (q_In1 6 124 rfl (q_In1 6 81 rfl (q_In1 5 129 rfl (q_In1 6 93 rfl (q_In1 5 68 rfl (q_In1 7 12 rfl (q_In1 5 194 rfl (q_In1 5 211 rfl (q_In1 5 203 rfl (q_In1 6 223 rfl (q_In1 6 104 rfl (q_In1 6 10 rfl (q_In1 6 20 rfl (q_In1 6 194 rfl (q_In0))))))))))))))))) (by decide +kernel)
def q_G_m2 : List Cond := (List.range' 32 16).map q_cw
set_option maxRecDepth 8000 in
theorem q_G_m2_g : GoodIn lw_tbl q_G_m2 := q_gq (q_In1 6 70 rfl (q_In1 5 219 rfl (q_In1 6 177 rfl (q_In1 6 155 rfl (q_In1 6 186 rfl (q_In1 5 166 rfl (q_In1 6 140 rfl (q_In1 6 202 rfl (q_In1 6 209 rfl (q_In1 3 42 rfl (q_In1 3 87 rfl (q_In1 1 98 rfl (q_In1 7 2 rfl (q_In1 5 22 rfl (q_In1 3 83 rfl (q_In1 5 65 rfl (q_In0))))))))))))))))) (by decide +kernel)
def q_G_m3 : List Cond := (List.range' 48 16).map q_cw
set_option maxRecDepth 8000 in
theorem q_G_m3_g : GoodIn lw_tbl q_G_m3 := q_gq (q_In1 1 92 rfl (q_In1 3 224 rfl (q_In1 5 26 rfl (q_In1 3 232 rfl (q_In1 3 228 rfl (q_In1 5 141 rfl (q_In1 5 76 rfl (q_In1 5 101 rfl (q_In1 3 36 rfl (q_In1 6 231 rfl (q_In1 3 206 rfl (q_In1 5 113 rfl (q_In1 2 121 rfl (q_In1 4 131 rfl (q_In1 2 117 rfl (q_In1 2 152 rfl (q_In0))))))))))))))))) (by decide +kernel)
def q_G_m4 : List Cond := (List.range' 64 16).map q_cw
set_option maxRecDepth 8000 in
theorem q_G_m4_g : GoodIn lw_tbl q_G_m4 := q_gq (q_In1 1 37 rfl (q_In1 3 51 rfl (q_In1 2 20 rfl (q_In1 3 71 rfl (q_In1 3 75 rfl (q_In1 4 145 rfl (q_In1 6 101 rfl (q_In1 4 75 rfl (q_In1 3 135 rfl (q_In1 3 144 rfl (q_In1 3 168 rfl (q_In1 6 40 rfl (q_In1 6 3 rfl (q_In1 6 7 rfl (q_In1 2 40 rfl (q_In1 3 172 rfl (q_In0))))))))))))))))) (by decide +kernel)
def q_G_m5 : List Cond := (List.range' 80 16).map q_cw
set_option maxRecDepth 8000 in
theorem q_G_m5_g : GoodIn lw_tbl q_G_m5 := q_gq (q_In1 4 58 rfl (q_In1 6 112 rfl (q_In1 3 164 rfl (q_In1 4 10 rfl (q_In1 3 120 rfl (q_In1 3 128 rfl (q_In1 6 44 rfl (q_In1 6 89 rfl (q_In1 5 239 rfl (q_In1 3 140 rfl (q_In1 3 184 rfl (q_In1 3 176 rfl (q_In1 3 188 rfl (q_In1 4 2 rfl (q_In1 3 180 rfl (q_In1 3 237 rfl (q_In0))))))))))))))))) (by decide +kernel)
