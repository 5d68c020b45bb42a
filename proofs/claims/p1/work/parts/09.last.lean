theorem tt_zz : 1 + 1 = 2 := by decide
