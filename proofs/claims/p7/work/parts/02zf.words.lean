/-! Part 02z: the words, gone on with. -/
def q_G_m18 : List Cond := (List.range' 288 16).map q_cw
theorem q_G_m18_g : GoodIn lw_tbl q_G_m18 := q_gp _ [(8, 171), (8, 179), (8, 175), (8, 92), (9, 169), (9, 92), (8, 236), (9, 53), (9, 57), (9, 64), (8, 2), (8, 129), (8, 232), (9, 17), (8, 11), (7, 213)] (by decide +kernel) (by decide +kernel)
def q_G_m19 : List Cond := (List.range' 304 16).map q_cw
theorem q_G_m19_g : GoodIn lw_tbl q_G_m19 := q_gp _ [(9, 189), (9, 117), (9, 21), (9, 177), (8, 101), (8, 80), (9, 88), (9, 109), (8, 88), (9, 37), (7, 183), (7, 206), (7, 168), (7, 164), (8, 27), (8, 23)] (by decide +kernel) (by decide +kernel)
def q_G_m20 : List Cond := (List.range' 320 16).map q_cw
theorem q_G_m20_g : GoodIn lw_tbl q_G_m20 := q_gp _ [(8, 43), (8, 204), (9, 201), (9, 83), (8, 163), (8, 200), (9, 197), (8, 56), (8, 208), (8, 216), (8, 224), (8, 220), (8, 212), (8, 76), (9, 161), (8, 51)] (by decide +kernel) (by decide +kernel)
def q_G_m21 : List Cond := (List.range' 336 16).map q_cw
theorem q_G_m21_g : GoodIn lw_tbl q_G_m21 := q_gp _ [(9, 41), (9, 9), (8, 187), (7, 187), (8, 60), (9, 13), (8, 196), (8, 145), (9, 45), (9, 125), (8, 137), (8, 141), (7, 196), (8, 133), (8, 228), (9, 104)] (by decide +kernel) (by decide +kernel)
def q_G_m22 : List Cond := (List.range' 352 17).map q_cw
theorem q_G_m22_g : GoodIn lw_tbl q_G_m22 := q_gp _ [(8, 31), (9, 100), (9, 149), (7, 177), (9, 68), (9, 121), (7, 138), (9, 72), (9, 193), (8, 121), (9, 113), (9, 137), (9, 141), (9, 129), (9, 181), (9, 185), (7, 126)] (by decide +kernel) (by decide +kernel)
