/-! Part 16k -/
theorem q_jB0 : q_tB 0 1 99 1 (7, 2) = true := by decide +kernel
theorem q_jD0 : q_tB 0 (-99) (-1) (-1) (1, 0) = true := by decide +kernel
