/-! Part 02z: the words, gone on with. -/
def q_G_m12 : List Cond := (List.range' 192 16).map q_cw
theorem q_G_m12_g : GoodIn lw_tbl q_G_m12 := q_gp _ [(4, 37), (6, 128), (4, 136), (3, 116), (6, 85), (4, 125), (5, 133), (4, 54), (4, 63), (3, 155), (6, 97), (4, 121), (5, 72), (3, 67), (7, 16), (5, 198)] (by decide +kernel) (by decide +kernel)
def q_G_m13 : List Cond := (List.range' 208 16).map q_cw
theorem q_G_m13_g : GoodIn lw_tbl q_G_m13 := q_gp _ [(3, 112), (4, 149), (3, 104), (3, 108), (5, 215), (5, 207), (6, 227), (6, 108), (6, 14), (6, 24), (4, 29), (6, 198), (6, 74), (5, 158), (5, 223), (3, 63)] (by decide +kernel) (by decide +kernel)
def q_G_m14 : List Cond := (List.range' 224 16).map q_cw
theorem q_G_m14_g : GoodIn lw_tbl q_G_m14 := q_gp _ [(6, 181), (6, 159), (2, 125), (6, 190), (4, 141), (5, 171), (6, 144), (6, 206), (6, 213), (4, 84), (9, 161), (7, 148), (8, 69), (7, 126), (7, 130), (7, 234)] (by decide +kernel) (by decide +kernel)
def q_G_m15 : List Cond := (List.range' 240 16).map q_cw
theorem q_G_m15_g : GoodIn lw_tbl q_G_m15 := q_gp _ [(8, 105), (8, 93), (9, 141), (9, 153), (9, 45), (7, 152), (7, 27), (7, 36), (8, 3), (7, 144), (7, 221), (9, 21), (8, 121), (8, 109), (8, 11), (7, 213)] (by decide +kernel) (by decide +kernel)
def q_G_m16 : List Cond := (List.range' 256 16).map q_cw
theorem q_G_m16_g : GoodIn lw_tbl q_G_m16 := q_gp _ [(8, 15), (7, 217), (7, 226), (7, 187), (9, 56), (9, 1), (8, 237), (8, 31), (8, 61), (7, 230), (8, 43), (7, 137), (7, 22), (8, 113), (8, 35), (8, 80)] (by decide +kernel) (by decide +kernel)
def q_G_m17 : List Cond := (List.range' 272 16).map q_cw
theorem q_G_m17_g : GoodIn lw_tbl q_G_m17 := q_gp _ [(8, 155), (7, 169), (8, 65), (8, 179), (9, 92), (8, 149), (8, 145), (8, 101), (9, 149), (9, 72), (9, 76), (7, 141), (9, 129), (9, 169), (8, 187), (8, 163)] (by decide +kernel) (by decide +kernel)
