/-! Part 02z: the words, gone on with. -/
def q_G_m0 : List Cond := (List.range' 0 16).map q_cw
theorem q_G_m0_g : GoodIn lw_tbl q_G_m0 := q_gp _ [(6, 234), (4, 232), (6, 216), (6, 115), (5, 29), (4, 152), (6, 32), (6, 63), (5, 57), (5, 79), (6, 48), (6, 55), (5, 116), (6, 132), (6, 162), (7, 5)] (by decide +kernel) (by decide +kernel)
def q_G_m1 : List Cond := (List.range' 16 16).map q_cw
theorem q_G_m1_g : GoodIn lw_tbl q_G_m1 := q_gp _ [(6, 169), (5, 231), (6, 124), (6, 81), (5, 129), (6, 93), (5, 68), (7, 12), (5, 194), (5, 211), (5, 203), (6, 223), (6, 104), (6, 10), (6, 20), (6, 194)] (by decide +kernel) (by decide +kernel)
def q_G_m2 : List Cond := (List.range' 32 16).map q_cw
theorem q_G_m2_g : GoodIn lw_tbl q_G_m2 := q_gp _ [(6, 70), (5, 219), (6, 177), (6, 155), (6, 186), (5, 166), (6, 140), (6, 202), (6, 209), (3, 42), (3, 87), (1, 98), (7, 2), (5, 22), (3, 83), (5, 65)] (by decide +kernel) (by decide +kernel)
def q_G_m3 : List Cond := (List.range' 48 16).map q_cw
theorem q_G_m3_g : GoodIn lw_tbl q_G_m3 := q_gp _ [(1, 92), (3, 224), (5, 26), (3, 232), (3, 228), (5, 141), (5, 76), (5, 101), (3, 36), (6, 231), (3, 206), (5, 113), (2, 121), (4, 131), (2, 117), (2, 152)] (by decide +kernel) (by decide +kernel)
def q_G_m4 : List Cond := (List.range' 64 16).map q_cw
theorem q_G_m4_g : GoodIn lw_tbl q_G_m4 := q_gp _ [(1, 37), (3, 51), (2, 20), (3, 71), (3, 75), (4, 145), (6, 101), (4, 75), (3, 135), (3, 144), (3, 168), (6, 40), (6, 3), (6, 7), (2, 40), (3, 172)] (by decide +kernel) (by decide +kernel)
def q_G_m5 : List Cond := (List.range' 80 16).map q_cw
theorem q_G_m5_g : GoodIn lw_tbl q_G_m5 := q_gp _ [(4, 58), (6, 112), (3, 164), (4, 10), (3, 120), (3, 128), (6, 44), (6, 89), (5, 239), (3, 140), (3, 184), (3, 176), (3, 188), (4, 2), (3, 180), (3, 237)] (by decide +kernel) (by decide +kernel)
