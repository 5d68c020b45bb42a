/-! Part 11b: the same of the law, in pieces. Printed by wip/tools/gen11.py. -/
theorem q_lsz : (q_mt 369).1.1 = 4096 := by decide +kernel
theorem q_il_0 : qd_ckF 369 0 = true := by decide +kernel
theorem q_il_1 : qd_ckF 369 1 = true := by decide +kernel
theorem q_il_2 : qd_ckF 369 2 = true := by decide +kernel
theorem q_il_3 : qd_ckF 369 3 = true := by decide +kernel
theorem q_il_4 : qd_ckF 369 4 = true := by decide +kernel
theorem q_il_5 : qd_ckF 369 5 = true := by decide +kernel
theorem q_il_6 : qd_ckF 369 6 = true := by decide +kernel
theorem q_il_7 : qd_ckF 369 7 = true := by decide +kernel
theorem q_il_8 : qd_ckF 369 8 = true := by decide +kernel
theorem q_il_9 : qd_ckF 369 9 = true := by decide +kernel
theorem q_il_10 : qd_ckF 369 10 = true := by decide +kernel
theorem q_il_11 : qd_ckF 369 11 = true := by decide +kernel
theorem q_il_12 : qd_ckF 369 12 = true := by decide +kernel
theorem q_il_13 : qd_ckF 369 13 = true := by decide +kernel
theorem q_il_14 : qd_ckF 369 14 = true := by decide +kernel
theorem q_il_15 : qd_ckF 369 15 = true := by decide +kernel
theorem q_il_all : ∀ pc, pc < 4096 → q_val 369 pc ((q_mt 369).1.2 pc) = true := by
  intro pc hpc
  by_cases c0 : pc < 256
  · exact qd_ckF_s q_il_0 pc (by omega) (by omega)
  by_cases c1 : pc < 512
  · exact qd_ckF_s q_il_1 pc (by omega) (by omega)
  by_cases c2 : pc < 768
  · exact qd_ckF_s q_il_2 pc (by omega) (by omega)
  by_cases c3 : pc < 1024
  · exact qd_ckF_s q_il_3 pc (by omega) (by omega)
  by_cases c4 : pc < 1280
  · exact qd_ckF_s q_il_4 pc (by omega) (by omega)
  by_cases c5 : pc < 1536
  · exact qd_ckF_s q_il_5 pc (by omega) (by omega)
  by_cases c6 : pc < 1792
  · exact qd_ckF_s q_il_6 pc (by omega) (by omega)
  by_cases c7 : pc < 2048
  · exact qd_ckF_s q_il_7 pc (by omega) (by omega)
  by_cases c8 : pc < 2304
  · exact qd_ckF_s q_il_8 pc (by omega) (by omega)
  by_cases c9 : pc < 2560
  · exact qd_ckF_s q_il_9 pc (by omega) (by omega)
  by_cases c10 : pc < 2816
  · exact qd_ckF_s q_il_10 pc (by omega) (by omega)
  by_cases c11 : pc < 3072
  · exact qd_ckF_s q_il_11 pc (by omega) (by omega)
  by_cases c12 : pc < 3328
  · exact qd_ckF_s q_il_12 pc (by omega) (by omega)
  by_cases c13 : pc < 3584
  · exact qd_ckF_s q_il_13 pc (by omega) (by omega)
  by_cases c14 : pc < 3840
  · exact qd_ckF_s q_il_14 pc (by omega) (by omega)
  exact qd_ckF_s q_il_15 pc (by omega) (by omega)
theorem q_val_ok : ∀ i, i < 370 → ∀ pc, pc < (q_mt i).1.1 → q_val i pc ((q_mt i).1.2 pc) = true := by
  intro i hi pc hpc
  by_cases c : i < 369
  · exact List.all_eq_true.mp (q_and_i (q_iv_all i c)).2 pc (List.mem_range.mpr hpc)
  · have e : i = 369 := by omega
    subst e
    exact q_il_all pc (by rw [q_lsz] at hpc; exact hpc)
