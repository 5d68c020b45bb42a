/-! Part 05v: the tables against the class files, gone on with. -/
theorem q_iv_288 : (List.range' 288 16).all q_iv = true := by decide +kernel
theorem q_iv_304 : (List.range' 304 16).all q_iv = true := by decide +kernel
theorem q_iv_320 : (List.range' 320 16).all q_iv = true := by decide +kernel
theorem q_iv_336 : (List.range' 336 16).all q_iv = true := by decide +kernel
theorem q_iv_352 : (List.range' 352 16).all q_iv = true := by decide +kernel
theorem q_mv_law : q_mvL 368 = true := by decide +kernel
theorem q_iv_all : ∀ i, i < 368 → q_iv i = true := by
  intro i hi
  have key : ∀ a n : Nat, (List.range' a n).all q_iv = true → a ≤ i → i < a + n → q_iv i = true := fun a n h h1 h2 => List.all_eq_true.mp h i (List.mem_range'_1.mpr ⟨h1, h2⟩)
  by_cases c0 : i < 16
  · exact key 0 16 q_iv_0 (by omega) (by omega)
  by_cases c16 : i < 32
  · exact key 16 16 q_iv_16 (by omega) (by omega)
  by_cases c32 : i < 48
  · exact key 32 16 q_iv_32 (by omega) (by omega)
  by_cases c48 : i < 64
  · exact key 48 16 q_iv_48 (by omega) (by omega)
  by_cases c64 : i < 80
  · exact key 64 16 q_iv_64 (by omega) (by omega)
  by_cases c80 : i < 96
  · exact key 80 16 q_iv_80 (by omega) (by omega)
  by_cases c96 : i < 112
  · exact key 96 16 q_iv_96 (by omega) (by omega)
  by_cases c112 : i < 128
  · exact key 112 16 q_iv_112 (by omega) (by omega)
  by_cases c128 : i < 144
  · exact key 128 16 q_iv_128 (by omega) (by omega)
  by_cases c144 : i < 160
  · exact key 144 16 q_iv_144 (by omega) (by omega)
  by_cases c160 : i < 176
  · exact key 160 16 q_iv_160 (by omega) (by omega)
  by_cases c176 : i < 192
  · exact key 176 16 q_iv_176 (by omega) (by omega)
  by_cases c192 : i < 208
  · exact key 192 16 q_iv_192 (by omega) (by omega)
  by_cases c208 : i < 224
  · exact key 208 16 q_iv_208 (by omega) (by omega)
  by_cases c224 : i < 240
  · exact key 224 16 q_iv_224 (by omega) (by omega)
  by_cases c240 : i < 256
  · exact key 240 16 q_iv_240 (by omega) (by omega)
  by_cases c256 : i < 272
  · exact key 256 16 q_iv_256 (by omega) (by omega)
  by_cases c272 : i < 288
  · exact key 272 16 q_iv_272 (by omega) (by omega)
  by_cases c288 : i < 304
  · exact key 288 16 q_iv_288 (by omega) (by omega)
  by_cases c304 : i < 320
  · exact key 304 16 q_iv_304 (by omega) (by omega)
  by_cases c320 : i < 336
  · exact key 320 16 q_iv_320 (by omega) (by omega)
  by_cases c336 : i < 352
  · exact key 336 16 q_iv_336 (by omega) (by omega)
  exact key 352 16 q_iv_352 (by omega) (by omega)
theorem q_mv_ok : ∀ i, i < 368 → q_mv i = true := fun i hi => (q_and_i (q_iv_all i hi)).1
