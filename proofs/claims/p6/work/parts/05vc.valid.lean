/-! Part 05v: the tables against the class files, gone on with. -/
theorem q_iv_224 : (List.range' 224 16).all q_iv = true := by decide +kernel
theorem q_iv_240 : (List.range' 240 16).all q_iv = true := by decide +kernel
theorem q_iv_256 : (List.range' 256 16).all q_iv = true := by decide +kernel
theorem q_iv_272 : (List.range' 272 16).all q_iv = true := by decide +kernel
