/-! Part 02z: the words, gone on with. -/
def q_G_u0 : List Cond := u_ws (q_on 0) q_CF0 7
theorem q_G_u0_g : GoodIn lw_tbl q_G_u0 := q_gp _ [(1, 118), (1, 120), (1, 122), (1, 124), (1, 126), (1, 128), (1, 130)] (by decide +kernel) (by decide +kernel)
def q_G_u1 : List Cond := u_ws (q_on 1) q_CF1 15
theorem q_G_u1_g : GoodIn lw_tbl q_G_u1 := q_gp _ [(1, 163), (1, 165), (1, 167), (1, 169), (1, 171), (1, 173), (1, 175), (1, 177), (1, 179), (1, 181), (1, 183), (1, 185), (1, 187), (1, 189), (1, 191)] (by decide +kernel) (by decide +kernel)
def q_G_u2 : List Cond := u_ws (q_on 2) q_CF2 2
theorem q_G_u2_g : GoodIn lw_tbl q_G_u2 := q_gp _ [(1, 43), (1, 45)] (by decide +kernel) (by decide +kernel)
def q_G_u3 : List Cond := u_ws (q_on 3) q_CF3 3
theorem q_G_u3_g : GoodIn lw_tbl q_G_u3 := q_gp _ [(2, 29), (2, 31), (2, 33)] (by decide +kernel) (by decide +kernel)
def q_G_u4 : List Cond := u_ws (q_on 4) q_CF4 11
theorem q_G_u4_g : GoodIn lw_tbl q_G_u4 := q_gp _ [(2, 54), (2, 56), (2, 58), (2, 60), (2, 62), (2, 64), (2, 66), (2, 68), (2, 70), (2, 72), (2, 74)] (by decide +kernel) (by decide +kernel)
def q_G_u5 : List Cond := u_ws (q_on 5) q_CF5 7
theorem q_G_u5_g : GoodIn lw_tbl q_G_u5 := q_gp _ [(1, 66), (1, 68), (1, 70), (1, 72), (1, 74), (1, 76), (1, 78)] (by decide +kernel) (by decide +kernel)
def q_G_u6 : List Cond := u_ws (q_on 6) q_CF6 11
theorem q_G_u6_g : GoodIn lw_tbl q_G_u6 := q_gp _ [(1, 233), (1, 235), (1, 237), (1, 239), (2, 1), (2, 3), (2, 5), (2, 7), (2, 9), (2, 11), (2, 13)] (by decide +kernel) (by decide +kernel)
def q_G_u7 : List Cond := u_ws (q_on 7) q_CF7 2
theorem q_G_u7_g : GoodIn lw_tbl q_G_u7 := q_gp _ [(1, 205), (1, 207)] (by decide +kernel) (by decide +kernel)
def q_G_u8 : List Cond := u_ws (q_on 8) q_CF8 10
theorem q_G_u8_g : GoodIn lw_tbl q_G_u8 := q_gp _ [(2, 89), (2, 91), (2, 93), (2, 95), (2, 97), (2, 99), (2, 101), (2, 103), (2, 105), (2, 107)] (by decide +kernel) (by decide +kernel)
def q_G_u9 : List Cond := u_ws (q_on 9) q_CF9 28
theorem q_G_u9_g : GoodIn lw_tbl q_G_u9 := q_gp _ [(7, 65), (7, 67), (7, 69), (7, 71), (7, 73), (7, 75), (7, 77), (7, 79), (7, 81), (7, 83), (7, 85), (7, 87), (7, 89), (7, 91), (7, 93), (7, 95), (7, 97), (7, 99), (7, 101), (7, 103), (7, 105), (7, 107), (7, 109), (7, 111), (7, 113), (7, 115), (7, 117), (7, 119)] (by decide +kernel) (by decide +kernel)
def q_G_f : List Cond := q_FL.map (fun q => Cond.fieldLink (q_on q.1) q.2.1 (q_cF q.2.2.1 q.2.2.2).1 (q_cF q.2.2.1 q.2.2.2).2.1 (q_cF q.2.2.1 q.2.2.2).2.2.1)
theorem q_G_f_g : GoodIn lw_tbl q_G_f := q_gp _ [(1, 100), (1, 103), (1, 106), (1, 110), (1, 112), (1, 114), (1, 116), (1, 133), (1, 135), (1, 138), (1, 140), (1, 142), (1, 143), (1, 147), (1, 149), (1, 151), (1, 160), (1, 57), (1, 144), (1, 146), (1, 152), (1, 155), (1, 159), (1, 101), (1, 104), (1, 107), (1, 39), (1, 40), (2, 25), (2, 26), (2, 28), (2, 42), (2, 43), (2, 44), (2, 45), (2, 46), (2, 47), (2, 48), (2, 49), (2, 50), (1, 202), (2, 51), (2, 53), (1, 156), (1, 148), (1, 139), (1, 141), (1, 136), (1, 221), (1, 55), (1, 56), (1, 61), (1, 63), (1, 60), (1, 59), (1, 65), (1, 42), (1, 210), (1, 212), (1, 214), (1, 216), (1, 218), (1, 58), (1, 220), (1, 223), (1, 225), (1, 227), (1, 229), (1, 231), (1, 153), (1, 161), (1, 108), (1, 203), (1, 157), (1, 113), (1, 115), (1, 117), (1, 137), (1, 111), (1, 200), (1, 201), (2, 79), (2, 80), (2, 81), (2, 82), (2, 83), (2, 84), (2, 85), (2, 86), (2, 87), (1, 41), (1, 62), (2, 88), (1, 211), (1, 134), (1, 213), (1, 215), (1, 64), (1, 219), (1, 222), (1, 224), (1, 226), (1, 217), (1, 204), (2, 27), (1, 158), (1, 228), (1, 145), (1, 150), (2, 52), (1, 162), (1, 232), (1, 230), (1, 102), (1, 105), (1, 109), (1, 154), (7, 37), (7, 38), (7, 39), (7, 40), (7, 41), (7, 45), (7, 46), (7, 47), (7, 48), (7, 49), (7, 50), (7, 53), (7, 62), (7, 63), (7, 44), (7, 42), (7, 51), (7, 56), (7, 57), (7, 58), (7, 59), (7, 54), (7, 55), (7, 60), (7, 52), (7, 43), (7, 61), (7, 64)] (by decide +kernel) (by decide +kernel)
def q_G_c : List Cond := q_CL.map (fun q => Cond.classLink (q_on q.1) q.2.1 (q_on q.2.2))
theorem q_G_c_g : GoodIn lw_tbl q_G_c := q_gp _ [(1, 94), (2, 22), (1, 88), (1, 194), (1, 33), (1, 49), (1, 82), (2, 16), (2, 36), (2, 77), (1, 25), (7, 18)] (by decide +kernel) (by decide +kernel)
def q_G_x : List Cond := q_XL.map (fun q => Cond.classLink (q_on q.1) q.2.1 (q_ex q.2.2))
theorem q_G_x_g : GoodIn lw_tbl q_G_x := q_gp _ [(4, 162), (5, 172), (5, 39), (5, 2), (4, 153), (4, 233), (5, 30), (5, 167)] (by decide +kernel) (by decide +kernel)
def q_G_i : List Cond := (List.range 10).map (fun n => Cond.instantiable (q_on n) (q_cN n))
theorem q_G_i_g : GoodIn lw_tbl q_G_i := q_gp _ [(1, 95), (1, 89), (1, 34), (2, 17), (2, 37), (1, 50), (1, 83), (1, 195), (1, 26), (7, 19)] (by decide +kernel) (by decide +kernel)
def q_G_t : List Cond := (List.range 11).map (fun n => Cond.initialized (q_on n))
theorem q_G_t_g : GoodIn lw_tbl q_G_t := q_gp _ [(1, 6), (1, 5), (1, 2), (1, 8), (1, 9), (1, 3), (1, 4), (1, 7), (1, 1), (1, 10), (1, 0)] (by decide +kernel) (by decide +kernel)
def q_G_e : List Cond := (List.range 4).map (fun n => Cond.initialized (q_ex n))
theorem q_G_e_g : GoodIn lw_tbl q_G_e := q_gp _ [(1, 18), (1, 19), (1, 20), (1, 22)] (by decide +kernel) (by decide +kernel)
def q_G_a : List Cond := [Cond.arrayClass .int, .arrayClass .byte, .arrayClass .long, .arrayClass .double]
theorem q_G_a_g : GoodIn lw_tbl q_G_a := q_gp _ [(1, 81), (1, 48), (7, 122), (9, 198)] (by decide +kernel) (by decide +kernel)
