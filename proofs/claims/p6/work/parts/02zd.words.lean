/-! Part 02z: the words, gone on with. -/
def q_G_m6 : List Cond := (List.range' 96 16).map q_cw
theorem q_G_m6_g : GoodIn lw_tbl q_G_m6 := q_gp _ [(4, 79), (6, 151), (4, 33), (4, 71), (3, 160), (3, 220), (4, 67), (2, 231), (2, 148), (2, 137), (3, 18), (2, 235), (1, 53), (2, 155), (3, 5), (2, 166)] (by decide +kernel) (by decide +kernel)
def q_G_m7 : List Cond := (List.range' 112 16).map q_cw
theorem q_G_m7_g : GoodIn lw_tbl q_G_m7 := q_gp _ [(2, 179), (2, 144), (3, 9), (3, 22), (2, 238), (2, 133), (3, 2), (3, 28), (2, 159), (2, 163), (2, 169), (4, 105), (4, 101), (3, 124), (3, 210), (3, 79)] (by decide +kernel) (by decide +kernel)
def q_G_m8 : List Cond := (List.range' 128 16).map q_cw
theorem q_G_m8_g : GoodIn lw_tbl q_G_m8 := q_gp _ [(3, 200), (4, 109), (5, 108), (5, 97), (4, 161), (1, 86), (5, 125), (5, 162), (4, 88), (3, 196), (3, 192), (3, 32), (3, 214), (4, 6), (3, 100), (3, 46)] (by decide +kernel) (by decide +kernel)
def q_G_m9 : List Cond := (List.range' 144 16).map q_cw
theorem q_G_m9_g : GoodIn lw_tbl q_G_m9 := q_gp _ [(3, 91), (4, 18), (6, 78), (4, 44), (3, 132), (1, 198), (4, 114), (4, 41), (5, 191), (4, 14), (4, 23), (6, 238), (2, 113), (4, 237), (4, 97), (6, 220)] (by decide +kernel) (by decide +kernel)
def q_G_m10 : List Cond := (List.range' 160 16).map q_cw
theorem q_G_m10_g : GoodIn lw_tbl q_G_m10 := q_gp _ [(6, 119), (5, 150), (5, 1), (5, 38), (5, 227), (5, 87), (5, 137), (5, 92), (5, 146), (6, 28), (5, 34), (4, 157), (6, 36), (6, 67), (2, 140), (3, 14)] (by decide +kernel) (by decide +kernel)
def q_G_m11 : List Cond := (List.range' 176 16).map q_cw
theorem q_G_m11_g : GoodIn lw_tbl q_G_m11 := q_gp _ [(5, 61), (3, 55), (3, 59), (4, 92), (5, 83), (6, 52), (1, 29), (6, 59), (5, 120), (6, 136), (6, 166), (2, 129), (7, 9), (4, 118), (6, 173), (5, 235)] (by decide +kernel) (by decide +kernel)
