/-! Part 02z: the words, gone on with. -/
def q_G_m18 : List Cond := (List.range' 288 16).map q_cw
theorem q_G_m18_g : GoodIn lw_tbl q_G_m18 := q_gp _ [(8, 167), (8, 175), (8, 171), (8, 88), (9, 165), (9, 88), (8, 232), (9, 49), (9, 53), (9, 60), (7, 238), (8, 125), (8, 228), (9, 13), (8, 7), (7, 209)] (by decide +kernel) (by decide +kernel)
def q_G_m19 : List Cond := (List.range' 304 16).map q_cw
theorem q_G_m19_g : GoodIn lw_tbl q_G_m19 := q_gp _ [(9, 185), (9, 113), (9, 17), (9, 173), (8, 97), (8, 76), (9, 84), (9, 105), (8, 84), (9, 33), (7, 179), (7, 202), (7, 164), (7, 160), (8, 23), (8, 19)] (by decide +kernel) (by decide +kernel)
def q_G_m20 : List Cond := (List.range' 320 16).map q_cw
theorem q_G_m20_g : GoodIn lw_tbl q_G_m20 := q_gp _ [(8, 39), (8, 200), (9, 197), (9, 79), (8, 159), (8, 196), (9, 193), (8, 52), (8, 204), (8, 212), (8, 220), (8, 216), (8, 208), (8, 72), (9, 157), (8, 47)] (by decide +kernel) (by decide +kernel)
def q_G_m21 : List Cond := (List.range' 336 16).map q_cw
theorem q_G_m21_g : GoodIn lw_tbl q_G_m21 := q_gp _ [(9, 37), (9, 5), (8, 183), (7, 183), (8, 56), (9, 9), (8, 192), (8, 141), (9, 41), (9, 121), (8, 133), (8, 137), (7, 192), (8, 129), (8, 224), (9, 100)] (by decide +kernel) (by decide +kernel)
def q_G_m22 : List Cond := (List.range' 352 16).map q_cw
theorem q_G_m22_g : GoodIn lw_tbl q_G_m22 := q_gp _ [(8, 27), (9, 96), (9, 145), (7, 173), (9, 64), (9, 117), (7, 134), (9, 68), (9, 189), (8, 117), (9, 109), (9, 133), (9, 137), (9, 125), (9, 177), (9, 181)] (by decide +kernel) (by decide +kernel)
