/-! Part 16: the runs, by the kernel. -/
theorem q_ea : q_tst 6 0 5 = true := by decide +kernel
