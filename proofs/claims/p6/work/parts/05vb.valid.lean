/-! Part 05v: the tables against the class files, gone on with. -/
theorem q_iv_128 : (List.range' 128 16).all q_iv = true := by decide +kernel
theorem q_iv_144 : (List.range' 144 16).all q_iv = true := by decide +kernel
theorem q_iv_160 : (List.range' 160 16).all q_iv = true := by decide +kernel
theorem q_iv_176 : (List.range' 176 16).all q_iv = true := by decide +kernel
theorem q_iv_192 : (List.range' 192 16).all q_iv = true := by decide +kernel
theorem q_iv_208 : (List.range' 208 16).all q_iv = true := by decide +kernel
