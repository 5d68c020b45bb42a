/-! Part 98e: numbers that are no NaN: whole numbers, quotients, sums. -/
theorem g_nearest {a b : Nat} (hb : 0 < b) (h : b ≤ a) : FP.Core.nearest a b ≠ 0 := by
  have : 1 ≤ a / b := (Nat.one_le_div_iff hb).mpr h
  unfold FP.Core.nearest
  (repeat' split) <;> omega
theorem g_lead {n : Nat} (hn : n ≠ 0) : FP.Core.leading n 1 ≤ (n.log2 : Int) ∧ (n.log2 : Int) - 1 ≤ FP.Core.leading n 1 := by
  unfold FP.Core.leading
  have l1 : Nat.log2 1 = 0 := by decide
  rw [l1]
  dsimp only
  split <;> omega
theorem g_int {f : FP.Core.Fmt} {K : Nat} {n : Nat} {s : Bool} (ht : f.tails < 2 ^ f.p) (h0 : 0 < f.tails) (hp : 1 ≤ f.p) (hK : (K : Int) - ((f.p : Int) - 1) + 1 ≤ f.qmax) (hm : f.qmin + 1 ≤ f.qmax) (hm0 : f.qmin ≤ 0) (hn : n < 2 ^ (K + 1)) : ∃ c q, FP.Core.roundRatio f s n 1 0 = .fin s c q ∧ c < 2 ^ f.p ∧ (c < f.tails ∨ (f.qmin ≤ q ∧ (q ≤ f.qmin + 1 ∨ q ≤ (K : Int) - ((f.p : Int) - 1) + 1))) ∧ (n ≠ 0 → c ≠ 0) := by
  unfold FP.Core.roundRatio
  by_cases c0 : n = 0
  · rw [if_pos c0]; exact ⟨0, f.qmin, rfl, by omega, Or.inl h0, fun h => absurd c0 h⟩
  · rw [if_neg c0]
    have hl : n.log2 < K + 1 := (Nat.log2_lt c0).mpr hn
    have L := g_lead c0
    have hq1 : f.qmin ≤ FP.Core.quantum f n 1 0 := by unfold FP.Core.quantum; exact Int.le_max_left _ _
    have hq2 : FP.Core.quantum f n 1 0 ≤ f.qmin ∨ FP.Core.quantum f n 1 0 ≤ FP.Core.leading n 1 + 0 - ((f.p : Int) - 1) := by unfold FP.Core.quantum; omega
    generalize FP.Core.quantum f n 1 0 = q at hq1 hq2
    have nz : FP.Core.nearest (FP.Core.unitsNum n 0 q) (FP.Core.unitsDen 1 0 q) ≠ 0 := by
      refine g_nearest ?_ ?_
      · unfold FP.Core.unitsDen; rw [Nat.one_mul]; exact Nat.pos_of_ne_zero (by simp)
      · unfold FP.Core.unitsNum FP.Core.unitsDen
        rw [Nat.one_mul]
        by_cases cq : q ≤ 0
        · rw [show (q - 0).toNat = 0 by omega]
          have : 0 < 2 ^ (0 - q).toNat := Nat.pos_of_ne_zero (by simp)
          have : 1 * 1 ≤ n * 2 ^ (0 - q).toNat := Nat.mul_le_mul (by omega) (by omega)
          simpa using this
        · rw [show (0 - q).toNat = 0 by omega]
          have h1 : 2 ^ (q - 0).toNat ≤ 2 ^ n.log2 := Nat.pow_le_pow_right (by omega) (by omega)
          have h2 := Nat.log2_self_le c0
          simp only [Nat.pow_zero, Nat.mul_one]; omega
    unfold FP.Core.roundAt FP.Core.settle FP.Core.bound
    generalize FP.Core.nearest (FP.Core.unitsNum n 0 q) (FP.Core.unitsDen 1 0 q) = c at nz
    by_cases cc : c < 2 ^ f.p
    · rw [if_pos cc, if_pos (by omega)]
      exact ⟨c, q, rfl, cc, Or.inr ⟨hq1, by omega⟩, fun _ => nz⟩
    · rw [if_neg cc, if_pos (by omega)]
      exact ⟨f.tails, q + 1, rfl, ht, Or.inr ⟨by omega, by omega⟩, fun _ => by omega⟩
theorem g_T64 : FP.Core.Fmt.tails FP.Core.b64 = 4503599627370496 ∧ FP.Core.Fmt.exps FP.Core.b64 = 2048 ∧ 2 ^ FP.Core.b64.p = 9007199254740992 ∧ FP.Core.Fmt.qmin FP.Core.b64 = -1074 ∧ FP.Core.Fmt.qmax FP.Core.b64 = 971 ∧ FP.Core.b64.p = 53 := by decide +kernel
theorem g_T32 : FP.Core.Fmt.tails FP.Core.b32 = 8388608 ∧ FP.Core.Fmt.exps FP.Core.b32 = 256 ∧ 2 ^ FP.Core.b32.p = 16777216 ∧ FP.Core.Fmt.qmin FP.Core.b32 = -149 ∧ FP.Core.Fmt.qmax FP.Core.b32 = 104 ∧ FP.Core.b32.p = 24 := by decide +kernel
/-- what an encoding stands for -/
theorem g_dec64 {n : Nat} (h2 : n < 18446744073709551616) : (n % 9223372036854775808 ≤ 9218868437227405312 → FP.Core.decode FP.Core.b64 n ≠ .nan) ∧ (n % 9223372036854775808 < 9218868437227405312 → ∃ s c q, FP.Core.decode FP.Core.b64 n = .fin s c q ∧ (n % 9223372036854775808 ≠ 0 → c ≠ 0)) ∧ (n ≤ 9218868437227405312 → FP.Core.decode FP.Core.b64 n = .inf false ∨ ∃ c q, FP.Core.decode FP.Core.b64 n = .fin false c q) := by
  obtain ⟨eT, eX, -, -, -, -⟩ := g_T64
  have fE : FP.Core.fieldE FP.Core.b64 n = n / 4503599627370496 % 2048 := by unfold FP.Core.fieldE; rw [eT, eX]
  have fT : FP.Core.fieldT FP.Core.b64 n = n % 4503599627370496 := by unfold FP.Core.fieldT; rw [eT]
  have fS : FP.Core.fieldS FP.Core.b64 n = (n / 4503599627370496 / 2048 % 2 == 1) := by unfold FP.Core.fieldS; rw [eT, eX]
  unfold FP.Core.decode
  rw [fE, fT, fS, eX, eT]
  refine ⟨fun h => ?_, fun h => ?_, fun h => ?_⟩
  · by_cases c1 : n / 4503599627370496 % 2048 = 2048 - 1
    · rw [if_pos c1, if_pos (by omega)]; simp
    · rw [if_neg c1]; split <;> simp
  · rw [if_neg (by omega)]
    by_cases c1 : n / 4503599627370496 % 2048 = 0
    · rw [if_pos c1]; exact ⟨_, _, _, rfl, fun h9 => by omega⟩
    · rw [if_neg c1]; exact ⟨_, _, _, rfl, fun h9 => by omega⟩
  · have s0 : (n / 4503599627370496 / 2048 % 2 == 1) = false := by
      have : n / 4503599627370496 / 2048 = 0 := by omega
      rw [this]; rfl
    rw [s0]
    by_cases c1 : n / 4503599627370496 % 2048 = 2048 - 1
    · rw [if_pos c1, if_pos (by omega)]; exact Or.inl rfl
    · rw [if_neg c1]; split
      · exact Or.inr ⟨_, _, rfl⟩
      · exact Or.inr ⟨_, _, rfl⟩
theorem g_dec32 {n : Nat} (h2 : n < 4294967296) : (n % 2147483648 ≤ 2139095040 → FP.Core.decode FP.Core.b32 n ≠ .nan) ∧ (n % 2147483648 < 2139095040 → ∃ s c q, FP.Core.decode FP.Core.b32 n = .fin s c q ∧ (n % 2147483648 ≠ 0 → c ≠ 0)) := by
  obtain ⟨eT, eX, -, -, -, -⟩ := g_T32
  have fE : FP.Core.fieldE FP.Core.b32 n = n / 8388608 % 256 := by unfold FP.Core.fieldE; rw [eT, eX]
  have fT : FP.Core.fieldT FP.Core.b32 n = n % 8388608 := by unfold FP.Core.fieldT; rw [eT]
  unfold FP.Core.decode
  rw [fE, fT, eX, eT]
  refine ⟨fun h => ?_, fun h => ?_⟩
  · by_cases c1 : n / 8388608 % 256 = 256 - 1
    · rw [if_pos c1, if_pos (by omega)]; simp
    · rw [if_neg c1]; split <;> simp
  · rw [if_neg (by omega)]
    by_cases c1 : n / 8388608 % 256 = 0
    · rw [if_pos c1]; exact ⟨_, _, _, rfl, fun h9 => by omega⟩
    · rw [if_neg c1]; exact ⟨_, _, _, rfl, fun h9 => by omega⟩
/-- a whole number as a double: finite; not zero, if it is not -/
theorem g_i64 {i : Int} (h : i.natAbs < 2 ^ 64) : FP.Core.fromInt FP.Core.b64 i < 18446744073709551616 ∧ FP.Core.fromInt FP.Core.b64 i % 9223372036854775808 < 9218868437227405312 ∧ (i ≠ 0 → FP.Core.fromInt FP.Core.b64 i % 9223372036854775808 ≠ 0) ∧ (0 ≤ i → FP.Core.fromInt FP.Core.b64 i < 9218868437227405312) := by
  obtain ⟨eT, eX, eP, e1, e2, ep⟩ := g_T64
  obtain ⟨c, q, e, k1, k2, k3⟩ := g_int (f := FP.Core.b64) (K := 63) (n := i.natAbs) (s := decide (i < 0)) (by rw [eT, eP]; omega) (by rw [eT]; omega) (by rw [ep]; omega) (by rw [e2, ep]; omega) (by rw [e1, e2]; omega) (by rw [e1]; omega) h
  have en : FP.Core.fromInt FP.Core.b64 i = FP.Core.encode FP.Core.b64 (.fin (decide (i < 0)) c q) := by
    show FP.Core.encode FP.Core.b64 (FP.Core.roundRatio FP.Core.b64 (decide (i < 0)) i.natAbs 1 0) = _
    rw [e]
  rw [eP] at k1
  rw [eT, e1, ep] at k2
  have ee : FP.Core.encode FP.Core.b64 (.fin (decide (i < 0)) c q) = if c < FP.Core.Fmt.tails FP.Core.b64 then FP.Core.assemble FP.Core.b64 (decide (i < 0)) 0 c else FP.Core.assemble FP.Core.b64 (decide (i < 0)) ((q - FP.Core.Fmt.qmin FP.Core.b64).toNat + 1) (c - FP.Core.Fmt.tails FP.Core.b64) := rfl
  rw [en, ee, eT, e1]
  have nz : i ≠ 0 → c ≠ 0 := fun h9 => k3 (by omega)
  by_cases cc : c < 4503599627370496
  · rw [if_pos cc]
    unfold FP.Core.assemble
    rw [eT, eX]
    by_cases sg : i < 0
    · simp [sg]; omega
    · simp [sg]; omega
  · rw [if_neg cc]
    unfold FP.Core.assemble
    rw [eT, eX]
    by_cases sg : i < 0
    · simp [sg]; omega
    · simp [sg]; omega
theorem g_i32 {i : Int} (h : i.natAbs < 2 ^ 32) : FP.Core.fromInt FP.Core.b32 i < 4294967296 ∧ FP.Core.fromInt FP.Core.b32 i % 2147483648 < 2139095040 ∧ (i ≠ 0 → FP.Core.fromInt FP.Core.b32 i % 2147483648 ≠ 0) := by
  obtain ⟨eT, eX, eP, e1, e2, ep⟩ := g_T32
  obtain ⟨c, q, e, k1, k2, k3⟩ := g_int (f := FP.Core.b32) (K := 31) (n := i.natAbs) (s := decide (i < 0)) (by rw [eT, eP]; omega) (by rw [eT]; omega) (by rw [ep]; omega) (by rw [e2, ep]; omega) (by rw [e1, e2]; omega) (by rw [e1]; omega) h
  have en : FP.Core.fromInt FP.Core.b32 i = FP.Core.encode FP.Core.b32 (.fin (decide (i < 0)) c q) := by
    show FP.Core.encode FP.Core.b32 (FP.Core.roundRatio FP.Core.b32 (decide (i < 0)) i.natAbs 1 0) = _
    rw [e]
  rw [eP] at k1
  rw [eT, e1, ep] at k2
  have ee : FP.Core.encode FP.Core.b32 (.fin (decide (i < 0)) c q) = if c < FP.Core.Fmt.tails FP.Core.b32 then FP.Core.assemble FP.Core.b32 (decide (i < 0)) 0 c else FP.Core.assemble FP.Core.b32 (decide (i < 0)) ((q - FP.Core.Fmt.qmin FP.Core.b32).toNat + 1) (c - FP.Core.Fmt.tails FP.Core.b32) := rfl
  rw [en, ee, eT, e1]
  have nz : i ≠ 0 → c ≠ 0 := fun h9 => k3 (by omega)
  by_cases cc : c < 8388608
  · rw [if_pos cc]
    unfold FP.Core.assemble
    rw [eT, eX]
    by_cases sg : i < 0
    · simp [sg]; omega
    · simp [sg]; omega
  · rw [if_neg cc]
    unfold FP.Core.assemble
    rw [eT, eX]
    by_cases sg : i < 0
    · simp [sg]; omega
    · simp [sg]; omega
