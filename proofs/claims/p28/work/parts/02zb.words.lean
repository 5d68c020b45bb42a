/-! Part 02z: the words, gone on with. -/
def q_G_u0 : List Cond := u_ws (q_on 0) q_CF0 7
set_option maxRecDepth 8000 in
theorem q_G_u0_g : GoodIn lw_tbl q_G_u0 := q_gq (q_In1 1 118 rfl (q_In1 1 120 rfl (q_In1 1 122 rfl (q_In1 1 124 rfl (q_In1 1 126 rfl (q_In1 1 128 rfl (q_In1 1 130 rfl (q_In0)))))))) (by decide +kernel)
def q_G_u1 : List Cond := u_ws (q_on 1) q_CF1 15
set_option maxRecDepth 8000 in
theorem q_G_u1_g : GoodIn lw_tbl q_G_u1 := q_gq (q_In1 1 163 rfl (q_In1 1 165 rfl (q_In1 1 167 rfl (q_In1 1 169 rfl (q_In1 1 171 rfl (q_In1 1 173 rfl (q_In1 1 175 rfl (q_In1 1 177 rfl (q_In1 1 179 rfl (q_In1 1 181 rfl (q_In1 1 183 rfl (q_In1 1 185 rfl (q_In1 1 187 rfl (q_In1 1 189 rfl (q_In1 1 191 rfl (q_In0)))))))))))))))) (by decide +kernel)
def q_G_u2 : List Cond := u_ws (q_on 2) q_CF2 2
set_option maxRecDepth 8000 in
theorem q_G_u2_g : GoodIn lw_tbl q_G_u2 := q_gq (q_In1 1 43 rfl (q_In1 1 45 rfl (q_In0))) (by decide +kernel)
def q_G_u3 : List Cond := u_ws (q_on 3) q_CF3 3
set_option maxRecDepth 8000 in
theorem q_G_u3_g : GoodIn lw_tbl q_G_u3 := q_gq (q_In1 2 29 rfl (q_In1 2 31 rfl (q_In1 2 33 rfl (q_In0)))) (by decide +kernel)
def q_G_u4 : List Cond := u_ws (q_on 4) q_CF4 11
set_option maxRecDepth 8000 in
theorem q_G_u4_g : GoodIn lw_tbl q_G_u4 := q_gq (q_In1 2 54 rfl (q_In1 2 56 rfl (q_In1 2 58 rfl (q_In1 2 60 rfl (q_In1 2 62 rfl (q_In1 2 64 rfl (q_In1 2 66 rfl (q_In1 2 68 rfl (q_In1 2 70 rfl (q_In1 2 72 rfl (q_In1 2 74 rfl (q_In0)))))))))))) (by decide +kernel)
def q_G_u5 : List Cond := u_ws (q_on 5) q_CF5 7
set_option maxRecDepth 8000 in
theorem q_G_u5_g : GoodIn lw_tbl q_G_u5 := q_gq (q_In1 1 66 rfl (q_In1 1 68 rfl (q_In1 1 70 rfl (q_In1 1 72 rfl (q_In1 1 74 rfl (q_In1 1 76 rfl (q_In1 1 78 rfl (q_In0)))))))) (by decide +kernel)
def q_G_u6 : List Cond := u_ws (q_on 6) q_CF6 11
set_option maxRecDepth 8000 in
theorem q_G_u6_g : GoodIn lw_tbl q_G_u6 := q_gq (q_In1 1 233 rfl (q_In1 1 235 rfl (q_In1 1 237 rfl (q_In1 1 239 rfl (q_In1 2 1 rfl (q_In1 2 3 rfl (q_In1 2 5 rfl (q_In1 2 7 rfl (q_In1 2 9 rfl (q_In1 2 11 rfl (q_In1 2 13 rfl (q_In0)))))))))))) (by decide +kernel)
def q_G_u7 : List Cond := u_ws (q_on 7) q_CF7 2
set_option maxRecDepth 8000 in
theorem q_G_u7_g : GoodIn lw_tbl q_G_u7 := q_gq (q_In1 1 205 rfl (q_In1 1 207 rfl (q_In0))) (by decide +kernel)
def q_G_u8 : List Cond := u_ws (q_on 8) q_CF8 10
set_option maxRecDepth 8000 in
theorem q_G_u8_g : GoodIn lw_tbl q_G_u8 := q_gq (q_In1 2 89 rfl (q_In1 2 91 rfl (q_In1 2 93 rfl (q_In1 2 95 rfl (q_In1 2 97 rfl (q_In1 2 99 rfl (q_In1 2 101 rfl (q_In1 2 103 rfl (q_In1 2 105 rfl (q_In1 2 107 rfl (q_In0))))))))))) (by decide +kernel)
def q_G_u9 : List Cond := u_ws (q_on 9) q_CF9 28
set_option maxRecDepth 8000 in
theorem q_G_u9_g : GoodIn lw_tbl q_G_u9 := q_gq (q_In1 7 65 rfl (q_In1 7 67 rfl (q_In1 7 69 rfl (q_In1 7 71 rfl (q_In1 7 73 rfl (q_In1 7 75 rfl (q_In1 7 77 rfl (q_In1 7 79 rfl (q_In1 7 81 rfl (q_In1 7 83 rfl (q_In1 7 85 rfl (q_In1 7 87 rfl (q_In1 7 89 rfl (q_In1 7 91 rfl (q_In1 7 93 rfl (q_In1 7 95 rfl (q_In1 7 97 rfl (q_In1 7 99 rfl (q_In1 7 101 rfl (q_In1 7 103 rfl (q_In1 7 105 rfl (q_In1 7 107 rfl (q_In1 7 109 rfl (q_In1 7 111 rfl (q_In1 7 113 rfl (q_In1 7 115 rfl (q_In1 7 117 rfl (q_In1 7 119 rfl (q_In0))))))))))))))))))))))))))))) (by decide +kernel)
def q_G_f : List Cond := q_FL.map (fun q => Cond.fieldLink (q_on q.1) q.2.1 (q_cF q.2.2.1 q.2.2.2).1 (q_cF q.2.2.1 q.2.2.2).2.1 (q_cF q.2.2.1 q.2.2.2).2.2.1)
set_option maxRecDepth 8000 in
theorem q_G_f_g : GoodIn lw_tbl q_G_f := q_gq (q_In1 1 100 rfl (q_In1 1 103 rfl (q_In1 1 106 rfl (q_In1 1 110 rfl (q_In1 1 112 rfl (q_In1 1 114 rfl (q_In1 1 116 rfl (q_In1 1 133 rfl (q_In1 1 135 rfl (q_In1 1 138 rfl (q_In1 1 140 rfl (q_In1 1 142 rfl (q_In1 1 143 rfl (q_In1 1 147 rfl (q_In1 1 149 rfl (q_In1 1 151 rfl (q_In1 1 160 rfl (q_In1 1 57 rfl (q_In1 1 144 rfl (q_In1 1 146 rfl (q_In1 1 152 rfl (q_In1 1 155 rfl (q_In1 1 159 rfl (q_In1 1 101 rfl (q_In1 1 104 rfl (q_In1 1 107 rfl (q_In1 1 39 rfl (q_In1 1 40 rfl (q_In1 2 25 rfl (q_In1 2 26 rfl (q_In1 2 28 rfl (q_In1 2 42 rfl (q_In1 2 43 rfl (q_In1 2 44 rfl (q_In1 2 45 rfl (q_In1 2 46 rfl (q_In1 2 47 rfl (q_In1 2 48 rfl (q_In1 2 49 rfl (q_In1 2 50 rfl (q_In1 1 202 rfl (q_In1 2 51 rfl (q_In1 2 53 rfl (q_In1 1 156 rfl (q_In1 1 148 rfl (q_In1 1 139 rfl (q_In1 1 141 rfl (q_In1 1 136 rfl (q_In1 1 221 rfl (q_In1 1 55 rfl (q_In1 1 56 rfl (q_In1 1 61 rfl (q_In1 1 63 rfl (q_In1 1 60 rfl (q_In1 1 59 rfl (q_In1 1 65 rfl (q_In1 1 42 rfl (q_In1 1 210 rfl (q_In1 1 212 rfl (q_In1 1 214 rfl (q_In1 1 216 rfl (q_In1 1 218 rfl (q_In1 1 58 rfl (q_In1 1 220 rfl (q_In1 1 223 rfl (q_In1 1 225 rfl (q_In1 1 227 rfl (q_In1 1 229 rfl (q_In1 1 231 rfl (q_In1 1 153 rfl (q_In1 1 161 rfl (q_In1 1 108 rfl (q_In1 1 203 rfl (q_In1 1 157 rfl (q_In1 1 113 rfl (q_In1 1 115 rfl (q_In1 1 117 rfl (q_In1 1 137 rfl (q_In1 1 111 rfl (q_In1 1 200 rfl (q_In1 1 201 rfl (q_In1 2 79 rfl (q_In1 2 80 rfl (q_In1 2 81 rfl (q_In1 2 82 rfl (q_In1 2 83 rfl (q_In1 2 84 rfl (q_In1 2 85 rfl (q_In1 2 86 rfl (q_In1 2 87 rfl (q_In1 1 41 rfl (q_In1 1 62 rfl (q_In1 2 88 rfl (q_In1 1 211 rfl (q_In1 1 134 rfl (q_In1 1 213 rfl (q_In1 1 215 rfl (q_In1 1 64 rfl (q_In1 1 219 rfl (q_In1 1 222 rfl (q_In1 1 224 rfl (q_In1 1 226 rfl (q_In1 1 217 rfl (q_In1 1 204 rfl (q_In1 2 27 rfl (q_In1 1 158 rfl (q_In1 1 228 rfl (q_In1 1 145 rfl (q_In1 1 150 rfl (q_In1 2 52 rfl (q_In1 1 162 rfl (q_In1 1 232 rfl (q_In1 1 230 rfl (q_In1 1 102 rfl (q_In1 1 105 rfl (q_In1 1 109 rfl (q_In1 1 154 rfl (q_In1 7 37 rfl (q_In1 7 38 rfl (q_In1 7 39 rfl (q_In1 7 40 rfl (q_In1 7 41 rfl (q_In1 7 45 rfl (q_In1 7 46 rfl (q_In1 7 47 rfl (q_In1 7 48 rfl (q_In1 7 49 rfl (q_In1 7 50 rfl (q_In1 7 53 rfl (q_In1 7 62 rfl (q_In1 7 63 rfl (q_In1 7 44 rfl (q_In1 7 42 rfl (q_In1 7 51 rfl (q_In1 7 56 rfl (q_In1 7 57 rfl (q_In1 7 58 rfl (q_In1 7 59 rfl (q_In1 7 54 rfl (q_In1 7 55 rfl (q_In1 7 60 rfl (q_In1 7 52 rfl (q_In1 7 43 rfl (q_In1 7 61 rfl (q_In1 7 64 rfl (q_In0)))))))))))))))))))))))))))))))))))))))))))))))))))))))))))))))))))))))))))))))))))))))))))))))))))))))))))))))))))))))))))))))))))))))))))))))))) (by decide +kernel)
def q_G_c : List Cond := q_CL.map (fun q => Cond.classLink (q_on q.1) q.2.1 (q_on q.2.2))
set_option maxRecDepth 8000 in
theorem q_G_c_g : GoodIn lw_tbl q_G_c := q_gq (q_In1 1 94 rfl (q_In1 2 22 rfl (q_In1 1 88 rfl (q_In1 1 194 rfl (q_In1 1 33 rfl (q_In1 1 49 rfl (q_In1 1 82 rfl (q_In1 2 16 rfl (q_In1 2 36 rfl (q_In1 2 77 rfl (q_In1 1 25 rfl (q_In1 7 18 rfl (q_In0))))))))))))) (by decide +kernel)
def q_G_x : List Cond := q_XL.map (fun q => Cond.classLink (q_on q.1) q.2.1 (q_ex q.2.2))
set_option maxRecDepth 8000 in
theorem q_G_x_g : GoodIn lw_tbl q_G_x := q_gq (q_In1 4 162 rfl (q_In1 5 172 rfl (q_In1 5 39 rfl (q_In1 5 2 rfl (q_In1 4 153 rfl (q_In1 4 233 rfl (q_In1 5 30 rfl (q_In1 5 167 rfl (q_In0))))))))) (by decide +kernel)
def q_G_i : List Cond := (List.range 10).map (fun n => Cond.instantiable (q_on n) (q_cN n))
set_option maxRecDepth 8000 in
theorem q_G_i_g : GoodIn lw_tbl q_G_i := q_gq (q_In1 1 95 rfl (q_In1 1 89 rfl (q_In1 1 34 rfl (q_In1 2 17 rfl (q_In1 2 37 rfl (q_In1 1 50 rfl (q_In1 1 83 rfl (q_In1 1 195 rfl (q_In1 1 26 rfl (q_In1 7 19 rfl (q_In0))))))))))) (by decide +kernel)
def q_G_t : List Cond := (List.range 11).map (fun n => Cond.initialized (q_on n))
set_option maxRecDepth 8000 in
theorem q_G_t_g : GoodIn lw_tbl q_G_t := q_gq (q_In1 1 6 rfl (q_In1 1 5 rfl (q_In1 1 2 rfl (q_In1 1 8 rfl (q_In1 1 9 rfl (q_In1 1 3 rfl (q_In1 1 4 rfl (q_In1 1 7 rfl (q_In1 1 1 rfl (q_In1 1 10 rfl (q_In1 1 0 rfl (q_In0)))))))))))) (by decide +kernel)
def q_G_e : List Cond := (List.range 4).map (fun n => Cond.initialized (q_ex n))
set_option maxRecDepth 8000 in
theorem q_G_e_g : GoodIn lw_tbl q_G_e := q_gq (q_In1 1 18 rfl (q_In1 1 19 rfl (q_In1 1 20 rfl (q_In1 1 22 rfl (q_In0))))) (by decide +kernel)
def q_G_a : List Cond := [Cond.arrayClass .int, .arrayClass .byte, .arrayClass .long, .arrayClass .double]
set_option maxRecDepth 8000 in
theorem q_G_a_g : GoodIn lw_tbl q_G_a := q_gq (q_In1 1 81 rfl (q_In1 1 48 rfl (q_In1 7 122 rfl (q_In1 9 202 rfl (q_In0))))) (by decide +kernel)
