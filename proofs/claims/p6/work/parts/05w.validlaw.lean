/-! Part 11b: the same of the law, in pieces. Printed by wip/tools/gen11.py. -/
theorem q_lsz : (q_mt 368).1.1 = 4096 := by decide +kernel
theorem q_il_0 : (List.range' 0 64).all (fun pc => q_val 368 pc ((q_mt 368).1.2 pc)) = true := by decide +kernel
theorem q_il_64 : (List.range' 64 64).all (fun pc => q_val 368 pc ((q_mt 368).1.2 pc)) = true := by decide +kernel
theorem q_il_128 : (List.range' 128 64).all (fun pc => q_val 368 pc ((q_mt 368).1.2 pc)) = true := by decide +kernel
theorem q_il_192 : (List.range' 192 64).all (fun pc => q_val 368 pc ((q_mt 368).1.2 pc)) = true := by decide +kernel
theorem q_il_256 : (List.range' 256 64).all (fun pc => q_val 368 pc ((q_mt 368).1.2 pc)) = true := by decide +kernel
theorem q_il_320 : (List.range' 320 64).all (fun pc => q_val 368 pc ((q_mt 368).1.2 pc)) = true := by decide +kernel
theorem q_il_384 : (List.range' 384 64).all (fun pc => q_val 368 pc ((q_mt 368).1.2 pc)) = true := by decide +kernel
theorem q_il_448 : (List.range' 448 64).all (fun pc => q_val 368 pc ((q_mt 368).1.2 pc)) = true := by decide +kernel
theorem q_il_512 : (List.range' 512 64).all (fun pc => q_val 368 pc ((q_mt 368).1.2 pc)) = true := by decide +kernel
theorem q_il_576 : (List.range' 576 64).all (fun pc => q_val 368 pc ((q_mt 368).1.2 pc)) = true := by decide +kernel
theorem q_il_640 : (List.range' 640 64).all (fun pc => q_val 368 pc ((q_mt 368).1.2 pc)) = true := by decide +kernel
theorem q_il_704 : (List.range' 704 64).all (fun pc => q_val 368 pc ((q_mt 368).1.2 pc)) = true := by decide +kernel
theorem q_il_768 : (List.range' 768 64).all (fun pc => q_val 368 pc ((q_mt 368).1.2 pc)) = true := by decide +kernel
theorem q_il_832 : (List.range' 832 64).all (fun pc => q_val 368 pc ((q_mt 368).1.2 pc)) = true := by decide +kernel
theorem q_il_896 : (List.range' 896 64).all (fun pc => q_val 368 pc ((q_mt 368).1.2 pc)) = true := by decide +kernel
theorem q_il_960 : (List.range' 960 64).all (fun pc => q_val 368 pc ((q_mt 368).1.2 pc)) = true := by decide +kernel
theorem q_il_1024 : (List.range' 1024 64).all (fun pc => q_val 368 pc ((q_mt 368).1.2 pc)) = true := by decide +kernel
theorem q_il_1088 : (List.range' 1088 64).all (fun pc => q_val 368 pc ((q_mt 368).1.2 pc)) = true := by decide +kernel
theorem q_il_1152 : (List.range' 1152 64).all (fun pc => q_val 368 pc ((q_mt 368).1.2 pc)) = true := by decide +kernel
theorem q_il_1216 : (List.range' 1216 64).all (fun pc => q_val 368 pc ((q_mt 368).1.2 pc)) = true := by decide +kernel
theorem q_il_1280 : (List.range' 1280 64).all (fun pc => q_val 368 pc ((q_mt 368).1.2 pc)) = true := by decide +kernel
theorem q_il_1344 : (List.range' 1344 64).all (fun pc => q_val 368 pc ((q_mt 368).1.2 pc)) = true := by decide +kernel
theorem q_il_1408 : (List.range' 1408 64).all (fun pc => q_val 368 pc ((q_mt 368).1.2 pc)) = true := by decide +kernel
theorem q_il_1472 : (List.range' 1472 64).all (fun pc => q_val 368 pc ((q_mt 368).1.2 pc)) = true := by decide +kernel
theorem q_il_1536 : (List.range' 1536 64).all (fun pc => q_val 368 pc ((q_mt 368).1.2 pc)) = true := by decide +kernel
theorem q_il_1600 : (List.range' 1600 64).all (fun pc => q_val 368 pc ((q_mt 368).1.2 pc)) = true := by decide +kernel
theorem q_il_1664 : (List.range' 1664 64).all (fun pc => q_val 368 pc ((q_mt 368).1.2 pc)) = true := by decide +kernel
theorem q_il_1728 : (List.range' 1728 64).all (fun pc => q_val 368 pc ((q_mt 368).1.2 pc)) = true := by decide +kernel
theorem q_il_1792 : (List.range' 1792 64).all (fun pc => q_val 368 pc ((q_mt 368).1.2 pc)) = true := by decide +kernel
theorem q_il_1856 : (List.range' 1856 64).all (fun pc => q_val 368 pc ((q_mt 368).1.2 pc)) = true := by decide +kernel
theorem q_il_1920 : (List.range' 1920 64).all (fun pc => q_val 368 pc ((q_mt 368).1.2 pc)) = true := by decide +kernel
theorem q_il_1984 : (List.range' 1984 64).all (fun pc => q_val 368 pc ((q_mt 368).1.2 pc)) = true := by decide +kernel
theorem q_il_2048 : (List.range' 2048 64).all (fun pc => q_val 368 pc ((q_mt 368).1.2 pc)) = true := by decide +kernel
theorem q_il_2112 : (List.range' 2112 64).all (fun pc => q_val 368 pc ((q_mt 368).1.2 pc)) = true := by decide +kernel
theorem q_il_2176 : (List.range' 2176 64).all (fun pc => q_val 368 pc ((q_mt 368).1.2 pc)) = true := by decide +kernel
theorem q_il_2240 : (List.range' 2240 64).all (fun pc => q_val 368 pc ((q_mt 368).1.2 pc)) = true := by decide +kernel
theorem q_il_2304 : (List.range' 2304 64).all (fun pc => q_val 368 pc ((q_mt 368).1.2 pc)) = true := by decide +kernel
theorem q_il_2368 : (List.range' 2368 64).all (fun pc => q_val 368 pc ((q_mt 368).1.2 pc)) = true := by decide +kernel
theorem q_il_2432 : (List.range' 2432 64).all (fun pc => q_val 368 pc ((q_mt 368).1.2 pc)) = true := by decide +kernel
theorem q_il_2496 : (List.range' 2496 64).all (fun pc => q_val 368 pc ((q_mt 368).1.2 pc)) = true := by decide +kernel
theorem q_il_2560 : (List.range' 2560 64).all (fun pc => q_val 368 pc ((q_mt 368).1.2 pc)) = true := by decide +kernel
theorem q_il_2624 : (List.range' 2624 64).all (fun pc => q_val 368 pc ((q_mt 368).1.2 pc)) = true := by decide +kernel
theorem q_il_2688 : (List.range' 2688 64).all (fun pc => q_val 368 pc ((q_mt 368).1.2 pc)) = true := by decide +kernel
theorem q_il_2752 : (List.range' 2752 64).all (fun pc => q_val 368 pc ((q_mt 368).1.2 pc)) = true := by decide +kernel
theorem q_il_2816 : (List.range' 2816 64).all (fun pc => q_val 368 pc ((q_mt 368).1.2 pc)) = true := by decide +kernel
theorem q_il_2880 : (List.range' 2880 64).all (fun pc => q_val 368 pc ((q_mt 368).1.2 pc)) = true := by decide +kernel
theorem q_il_2944 : (List.range' 2944 64).all (fun pc => q_val 368 pc ((q_mt 368).1.2 pc)) = true := by decide +kernel
theorem q_il_3008 : (List.range' 3008 64).all (fun pc => q_val 368 pc ((q_mt 368).1.2 pc)) = true := by decide +kernel
theorem q_il_3072 : (List.range' 3072 64).all (fun pc => q_val 368 pc ((q_mt 368).1.2 pc)) = true := by decide +kernel
theorem q_il_3136 : (List.range' 3136 64).all (fun pc => q_val 368 pc ((q_mt 368).1.2 pc)) = true := by decide +kernel
theorem q_il_3200 : (List.range' 3200 64).all (fun pc => q_val 368 pc ((q_mt 368).1.2 pc)) = true := by decide +kernel
theorem q_il_3264 : (List.range' 3264 64).all (fun pc => q_val 368 pc ((q_mt 368).1.2 pc)) = true := by decide +kernel
theorem q_il_3328 : (List.range' 3328 64).all (fun pc => q_val 368 pc ((q_mt 368).1.2 pc)) = true := by decide +kernel
theorem q_il_3392 : (List.range' 3392 64).all (fun pc => q_val 368 pc ((q_mt 368).1.2 pc)) = true := by decide +kernel
theorem q_il_3456 : (List.range' 3456 64).all (fun pc => q_val 368 pc ((q_mt 368).1.2 pc)) = true := by decide +kernel
theorem q_il_3520 : (List.range' 3520 64).all (fun pc => q_val 368 pc ((q_mt 368).1.2 pc)) = true := by decide +kernel
theorem q_il_3584 : (List.range' 3584 64).all (fun pc => q_val 368 pc ((q_mt 368).1.2 pc)) = true := by decide +kernel
theorem q_il_3648 : (List.range' 3648 64).all (fun pc => q_val 368 pc ((q_mt 368).1.2 pc)) = true := by decide +kernel
theorem q_il_3712 : (List.range' 3712 64).all (fun pc => q_val 368 pc ((q_mt 368).1.2 pc)) = true := by decide +kernel
theorem q_il_3776 : (List.range' 3776 64).all (fun pc => q_val 368 pc ((q_mt 368).1.2 pc)) = true := by decide +kernel
theorem q_il_3840 : (List.range' 3840 64).all (fun pc => q_val 368 pc ((q_mt 368).1.2 pc)) = true := by decide +kernel
theorem q_il_3904 : (List.range' 3904 64).all (fun pc => q_val 368 pc ((q_mt 368).1.2 pc)) = true := by decide +kernel
theorem q_il_3968 : (List.range' 3968 64).all (fun pc => q_val 368 pc ((q_mt 368).1.2 pc)) = true := by decide +kernel
theorem q_il_4032 : (List.range' 4032 64).all (fun pc => q_val 368 pc ((q_mt 368).1.2 pc)) = true := by decide +kernel
theorem q_il_all : ∀ pc, pc < 4096 → q_val 368 pc ((q_mt 368).1.2 pc) = true := by
  intro pc hpc
  have key : ∀ a : Nat, (List.range' a 64).all (fun pc => q_val 368 pc ((q_mt 368).1.2 pc)) = true → a ≤ pc → pc < a + 64 → q_val 368 pc ((q_mt 368).1.2 pc) = true := fun a h h1 h2 => List.all_eq_true.mp h pc (List.mem_range'_1.mpr ⟨h1, h2⟩)
  by_cases c0 : pc < 64
  · exact key 0 q_il_0 (by omega) (by omega)
  by_cases c64 : pc < 128
  · exact key 64 q_il_64 (by omega) (by omega)
  by_cases c128 : pc < 192
  · exact key 128 q_il_128 (by omega) (by omega)
  by_cases c192 : pc < 256
  · exact key 192 q_il_192 (by omega) (by omega)
  by_cases c256 : pc < 320
  · exact key 256 q_il_256 (by omega) (by omega)
  by_cases c320 : pc < 384
  · exact key 320 q_il_320 (by omega) (by omega)
  by_cases c384 : pc < 448
  · exact key 384 q_il_384 (by omega) (by omega)
  by_cases c448 : pc < 512
  · exact key 448 q_il_448 (by omega) (by omega)
  by_cases c512 : pc < 576
  · exact key 512 q_il_512 (by omega) (by omega)
  by_cases c576 : pc < 640
  · exact key 576 q_il_576 (by omega) (by omega)
  by_cases c640 : pc < 704
  · exact key 640 q_il_640 (by omega) (by omega)
  by_cases c704 : pc < 768
  · exact key 704 q_il_704 (by omega) (by omega)
  by_cases c768 : pc < 832
  · exact key 768 q_il_768 (by omega) (by omega)
  by_cases c832 : pc < 896
  · exact key 832 q_il_832 (by omega) (by omega)
  by_cases c896 : pc < 960
  · exact key 896 q_il_896 (by omega) (by omega)
  by_cases c960 : pc < 1024
  · exact key 960 q_il_960 (by omega) (by omega)
  by_cases c1024 : pc < 1088
  · exact key 1024 q_il_1024 (by omega) (by omega)
  by_cases c1088 : pc < 1152
  · exact key 1088 q_il_1088 (by omega) (by omega)
  by_cases c1152 : pc < 1216
  · exact key 1152 q_il_1152 (by omega) (by omega)
  by_cases c1216 : pc < 1280
  · exact key 1216 q_il_1216 (by omega) (by omega)
  by_cases c1280 : pc < 1344
  · exact key 1280 q_il_1280 (by omega) (by omega)
  by_cases c1344 : pc < 1408
  · exact key 1344 q_il_1344 (by omega) (by omega)
  by_cases c1408 : pc < 1472
  · exact key 1408 q_il_1408 (by omega) (by omega)
  by_cases c1472 : pc < 1536
  · exact key 1472 q_il_1472 (by omega) (by omega)
  by_cases c1536 : pc < 1600
  · exact key 1536 q_il_1536 (by omega) (by omega)
  by_cases c1600 : pc < 1664
  · exact key 1600 q_il_1600 (by omega) (by omega)
  by_cases c1664 : pc < 1728
  · exact key 1664 q_il_1664 (by omega) (by omega)
  by_cases c1728 : pc < 1792
  · exact key 1728 q_il_1728 (by omega) (by omega)
  by_cases c1792 : pc < 1856
  · exact key 1792 q_il_1792 (by omega) (by omega)
  by_cases c1856 : pc < 1920
  · exact key 1856 q_il_1856 (by omega) (by omega)
  by_cases c1920 : pc < 1984
  · exact key 1920 q_il_1920 (by omega) (by omega)
  by_cases c1984 : pc < 2048
  · exact key 1984 q_il_1984 (by omega) (by omega)
  by_cases c2048 : pc < 2112
  · exact key 2048 q_il_2048 (by omega) (by omega)
  by_cases c2112 : pc < 2176
  · exact key 2112 q_il_2112 (by omega) (by omega)
  by_cases c2176 : pc < 2240
  · exact key 2176 q_il_2176 (by omega) (by omega)
  by_cases c2240 : pc < 2304
  · exact key 2240 q_il_2240 (by omega) (by omega)
  by_cases c2304 : pc < 2368
  · exact key 2304 q_il_2304 (by omega) (by omega)
  by_cases c2368 : pc < 2432
  · exact key 2368 q_il_2368 (by omega) (by omega)
  by_cases c2432 : pc < 2496
  · exact key 2432 q_il_2432 (by omega) (by omega)
  by_cases c2496 : pc < 2560
  · exact key 2496 q_il_2496 (by omega) (by omega)
  by_cases c2560 : pc < 2624
  · exact key 2560 q_il_2560 (by omega) (by omega)
  by_cases c2624 : pc < 2688
  · exact key 2624 q_il_2624 (by omega) (by omega)
  by_cases c2688 : pc < 2752
  · exact key 2688 q_il_2688 (by omega) (by omega)
  by_cases c2752 : pc < 2816
  · exact key 2752 q_il_2752 (by omega) (by omega)
  by_cases c2816 : pc < 2880
  · exact key 2816 q_il_2816 (by omega) (by omega)
  by_cases c2880 : pc < 2944
  · exact key 2880 q_il_2880 (by omega) (by omega)
  by_cases c2944 : pc < 3008
  · exact key 2944 q_il_2944 (by omega) (by omega)
  by_cases c3008 : pc < 3072
  · exact key 3008 q_il_3008 (by omega) (by omega)
  by_cases c3072 : pc < 3136
  · exact key 3072 q_il_3072 (by omega) (by omega)
  by_cases c3136 : pc < 3200
  · exact key 3136 q_il_3136 (by omega) (by omega)
  by_cases c3200 : pc < 3264
  · exact key 3200 q_il_3200 (by omega) (by omega)
  by_cases c3264 : pc < 3328
  · exact key 3264 q_il_3264 (by omega) (by omega)
  by_cases c3328 : pc < 3392
  · exact key 3328 q_il_3328 (by omega) (by omega)
  by_cases c3392 : pc < 3456
  · exact key 3392 q_il_3392 (by omega) (by omega)
  by_cases c3456 : pc < 3520
  · exact key 3456 q_il_3456 (by omega) (by omega)
  by_cases c3520 : pc < 3584
  · exact key 3520 q_il_3520 (by omega) (by omega)
  by_cases c3584 : pc < 3648
  · exact key 3584 q_il_3584 (by omega) (by omega)
  by_cases c3648 : pc < 3712
  · exact key 3648 q_il_3648 (by omega) (by omega)
  by_cases c3712 : pc < 3776
  · exact key 3712 q_il_3712 (by omega) (by omega)
  by_cases c3776 : pc < 3840
  · exact key 3776 q_il_3776 (by omega) (by omega)
  by_cases c3840 : pc < 3904
  · exact key 3840 q_il_3840 (by omega) (by omega)
  by_cases c3904 : pc < 3968
  · exact key 3904 q_il_3904 (by omega) (by omega)
  by_cases c3968 : pc < 4032
  · exact key 3968 q_il_3968 (by omega) (by omega)
  by_cases c4032 : pc < 4096
  · exact key 4032 q_il_4032 (by omega) (by omega)
  omega
theorem q_val_ok : ∀ i, i < 369 → ∀ pc, pc < (q_mt i).1.1 → q_val i pc ((q_mt i).1.2 pc) = true := by
  intro i hi pc hpc
  by_cases c : i < 368
  · exact List.all_eq_true.mp (q_and_i (q_iv_all i c)).2 pc (List.mem_range.mpr hpc)
  · have e : i = 368 := by omega
    subst e
    exact q_il_all pc (by rw [q_lsz] at hpc; exact hpc)
