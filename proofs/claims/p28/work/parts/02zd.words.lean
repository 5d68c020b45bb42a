/-! Part 02z: the words, gone on with. -/
def q_G_m6 : List Cond := (List.range' 96 16).map q_cw
set_option maxRecDepth 8000 in
theorem q_G_m6_g : GoodIn lw_tbl q_G_m6 := q_gq (q_In1 4 79 rfl (q_In1 6 151 rfl (q_In1 4 33 rfl (q_In1 4 71 rfl (q_In1 3 160 rfl (q_In1 3 220 rfl (q_In1 4 67 rfl (q_In1 2 231 rfl (q_In1 2 148 rfl (q_In1 2 137 rfl (q_In1 3 18 rfl (q_In1 2 235 rfl (q_In1 1 53 rfl (q_In1 2 155 rfl (q_In1 3 5 rfl (q_In1 2 166 rfl (q_In0))))))))))))))))) (by decide +kernel)
def q_G_m7 : List Cond := (List.range' 112 16).map q_cw
set_option maxRecDepth 8000 in
theorem q_G_m7_g : GoodIn lw_tbl q_G_m7 := q_gq (q_In1 2 179 rfl (q_In1 2 144 rfl (q_In1 3 9 rfl (q_In1 3 22 rfl (q_In1 2 238 rfl (q_In1 2 133 rfl (q_In1 3 2 rfl (q_In1 3 28 rfl (q_In1 2 159 rfl (q_In1 2 163 rfl (q_In1 2 169 rfl (q_In1 4 105 rfl (q_In1 4 101 rfl (q_In1 3 124 rfl (q_In1 3 210 rfl (q_In1 3 79 rfl (q_In0))))))))))))))))) (by decide +kernel)
def q_G_m8 : List Cond := (List.range' 128 16).map q_cw
set_option maxRecDepth 8000 in
theorem q_G_m8_g : GoodIn lw_tbl q_G_m8 := q_gq (q_In1 3 200 rfl (q_In1 4 109 rfl (q_In1 5 108 rfl (q_In1 5 97 rfl (q_In1 4 161 rfl (q_In1 1 86 rfl (q_In1 5 125 rfl (q_In1 5 162 rfl (q_In1 4 88 rfl (q_In1 3 196 rfl (q_In1 3 192 rfl (q_In1 3 32 rfl (q_In1 3 214 rfl (q_In1 4 6 rfl (q_In1 3 100 rfl (q_In1 3 46 rfl (q_In0))))))))))))))))) (by decide +kernel)
def q_G_m9 : List Cond := (List.range' 144 16).map q_cw
set_option maxRecDepth 8000 in
theorem q_G_m9_g : GoodIn lw_tbl q_G_m9 := q_gq (q_In1 3 91 rfl (q_In1 4 18 rfl (q_In1 6 78 rfl (q_In1 4 44 rfl (q_In1 3 132 rfl (q_In1 1 198 rfl (q_In1 4 114 rfl (q_In1 4 41 rfl (q_In1 5 191 rfl (q_In1 4 14 rfl (q_In1 4 23 rfl (q_In1 6 238 rfl (q_In1 2 113 rfl (q_In1 4 237 rfl (q_In1 4 97 rfl (q_In1 6 220 rfl (q_In0))))))))))))))))) (by decide +kernel)
def q_G_m10 : List Cond := (List.range' 160 16).map q_cw
set_option maxRecDepth 8000 in
theorem q_G_m10_g : GoodIn lw_tbl q_G_m10 := q_gq (q_In1 6 119 rfl (q_In1 5 150 rfl (q_In1 5 1 rfl (q_In1 5 38 rfl (q_In1 5 227 rfl (q_In1 5 87 rfl (q_In1 5 137 rfl (q_In1 5 92 rfl (q_In1 5 146 rfl (q_In1 6 28 rfl (q_In1 5 34 rfl (q_In1 4 157 rfl (q_In1 6 36 rfl (q_In1 6 67 rfl (q_In1 2 140 rfl (q_In1 3 14 rfl (q_In0))))))))))))))))) (by decide +kernel)
def q_G_m11 : List Cond := (List.range' 176 16).map q_cw
set_option maxRecDepth 8000 in
theorem q_G_m11_g : GoodIn lw_tbl q_G_m11 := q_gq (q_In1 5 61 rfl (q_In1 3 55 rfl (q_In1 3 59 rfl (q_In1 4 92 rfl (q_In1 5 83 rfl (q_In1 6 52 rfl (q_In1 1 29 rfl (q_In1 6 59 rfl (q_In1 5 120 rfl (q_In1 6 136 rfl (q_In1 6 166 rfl (q_In1 2 129 rfl (q_In1 7 9 rfl (q_In1 4 118 rfl (q_In1 6 173 rfl (q_In1 5 235 rfl (q_In0))))))))))))))))) (by decide +kernel)
