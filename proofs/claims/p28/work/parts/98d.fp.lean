section -- [98d.fp]
/-! Part 98d: numbers that are no NaN. -/
/-- a datum that is a number or an infinity, as rounding leaves it -/
def g_ok (f : FP.Core.Fmt) (d : FP.Core.Datum) : Prop := d ≠ .nan ∧ ∀ s c q, d = .fin s c q → c < 2 ^ f.p ∧ (c < f.tails ∨ (f.qmin ≤ q ∧ q ≤ f.qmax))
theorem g_bound {f : FP.Core.Fmt} {s : Bool} {c : Nat} {q : Int} (hc : c < 2 ^ f.p) (hq : f.qmin ≤ q) : g_ok f (FP.Core.bound f s c q) := by
  unfold FP.Core.bound
  split
  · rename_i h
    exact ⟨by simp, fun s' c' q' e => by injection e with e1 e2 e3; subst e2; subst e3; exact ⟨hc, Or.inr ⟨hq, h⟩⟩⟩
  · exact ⟨by simp, fun s' c' q' e => by cases e⟩
theorem g_rr {f : FP.Core.Fmt} (ht : f.tails < 2 ^ f.p) (h0 : 0 < f.tails) (s : Bool) (n d : Nat) (e : Int) : g_ok f (FP.Core.roundRatio f s n d e) := by
  unfold FP.Core.roundRatio
  split
  · exact ⟨by simp, fun s' c' q' e => by injection e with e1 e2 e3; subst e2; exact ⟨by omega, Or.inl h0⟩⟩
  · unfold FP.Core.roundAt FP.Core.settle
    have hq : f.qmin ≤ FP.Core.quantum f n d e := by unfold FP.Core.quantum; exact Int.le_max_left _ _
    split
    · rename_i h; exact g_bound h hq
    · exact g_bound ht (by omega)
theorem g_enc64 {d : FP.Core.Datum} (h : g_ok FP.Core.b64 d) : FP.Core.encode FP.Core.b64 d % 9223372036854775808 ≤ 9218868437227405312 ∧ FP.Core.encode FP.Core.b64 d < 18446744073709551616 := by
  have eT : FP.Core.Fmt.tails FP.Core.b64 = 4503599627370496 := by decide +kernel
  have eX : FP.Core.Fmt.exps FP.Core.b64 = 2048 := by decide +kernel
  have eP : 2 ^ FP.Core.b64.p = 9007199254740992 := by decide +kernel
  have e1 : FP.Core.Fmt.qmin FP.Core.b64 = -1074 := by decide +kernel
  have e2 : FP.Core.Fmt.qmax FP.Core.b64 = 971 := by decide +kernel
  obtain ⟨h1, h2⟩ := h
  cases d with
  | nan => exact absurd rfl h1
  | inf s =>
    unfold FP.Core.encode FP.Core.assemble
    rw [eT, eX]
    cases s <;> simp
  | fin s c q =>
    obtain ⟨k1, k2⟩ := h2 s c q rfl
    rw [eP] at k1
    rw [eT, e1, e2] at k2
    have en : FP.Core.encode FP.Core.b64 (.fin s c q) = if c < FP.Core.Fmt.tails FP.Core.b64 then FP.Core.assemble FP.Core.b64 s 0 c else FP.Core.assemble FP.Core.b64 s ((q - FP.Core.Fmt.qmin FP.Core.b64).toNat + 1) (c - FP.Core.Fmt.tails FP.Core.b64) := rfl
    rw [en, eT, e1]
    by_cases cc : c < 4503599627370496
    · rw [if_pos cc]
      unfold FP.Core.assemble
      rw [eT, eX]
      cases s <;> simp <;> omega
    · rw [if_neg cc]
      unfold FP.Core.assemble
      rw [eT, eX]
      cases s <;> simp <;> omega
theorem g_enc32 {d : FP.Core.Datum} (h : g_ok FP.Core.b32 d) : FP.Core.encode FP.Core.b32 d % 2147483648 ≤ 2139095040 ∧ FP.Core.encode FP.Core.b32 d < 4294967296 := by
  have eT : FP.Core.Fmt.tails FP.Core.b32 = 8388608 := by decide +kernel
  have eX : FP.Core.Fmt.exps FP.Core.b32 = 256 := by decide +kernel
  have eP : 2 ^ FP.Core.b32.p = 16777216 := by decide +kernel
  have e1 : FP.Core.Fmt.qmin FP.Core.b32 = -149 := by decide +kernel
  have e2 : FP.Core.Fmt.qmax FP.Core.b32 = 104 := by decide +kernel
  obtain ⟨h1, h2⟩ := h
  cases d with
  | nan => exact absurd rfl h1
  | inf s =>
    unfold FP.Core.encode FP.Core.assemble
    rw [eT, eX]
    cases s <;> simp
  | fin s c q =>
    obtain ⟨k1, k2⟩ := h2 s c q rfl
    rw [eP] at k1
    rw [eT, e1, e2] at k2
    have en : FP.Core.encode FP.Core.b32 (.fin s c q) = if c < FP.Core.Fmt.tails FP.Core.b32 then FP.Core.assemble FP.Core.b32 s 0 c else FP.Core.assemble FP.Core.b32 s ((q - FP.Core.Fmt.qmin FP.Core.b32).toNat + 1) (c - FP.Core.Fmt.tails FP.Core.b32) := rfl
    rw [en, eT, e1]
    by_cases cc : c < 8388608
    · rw [if_pos cc]
      unfold FP.Core.assemble
      rw [eT, eX]
      cases s <;> simp <;> omega
    · rw [if_neg cc]
      unfold FP.Core.assemble
      rw [eT, eX]
      cases s <;> simp <;> omega
theorem g_n64 {n : Nat} (h : n % 9223372036854775808 ≤ 9218868437227405312) (h2 : n < 18446744073709551616) : q_n64 (UInt64.ofNat n) = true := by
  unfold q_n64
  rw [decide_eq_true_iff, UInt64.le_iff_toNat_le, UInt64.toNat_and, UInt64.toNat_ofNat_of_lt' h2]
  have e : (0x7fffffffffffffff : UInt64).toNat = 2 ^ 63 - 1 := by decide
  have e2 : (0x7ff0000000000000 : UInt64).toNat = 9218868437227405312 := by decide
  rw [e, e2, Nat.and_two_pow_sub_one_eq_mod]
  exact h
theorem g_n32 {n : Nat} (h : n % 2147483648 ≤ 2139095040) (h2 : n < 4294967296) : q_n32 (UInt32.ofNat n) = true := by
  unfold q_n32
  rw [decide_eq_true_iff, UInt32.le_iff_toNat_le, UInt32.toNat_and, UInt32.toNat_ofNat_of_lt' h2]
  have e : (0x7fffffff : UInt32).toNat = 2 ^ 31 - 1 := by decide
  have e2 : (0x7f800000 : UInt32).toNat = 2139095040 := by decide
  rw [e, e2, Nat.and_two_pow_sub_one_eq_mod]
  exact h
end -- [98d.fp]
section -- [98e.fp]
/-! Part 98e: numbers that are no NaN: whole numbers, quotients, sums. -/
theorem g_nearest {a b : Nat} (hb : 0 < b) (h : b ≤ a) : FP.Core.nearest a b ≠ 0 := by
  have : 1 ≤ a / b := (Nat.one_le_div_iff hb).mpr h
  unfold FP.Core.nearest
  (repeat' split) <;> omega
theorem g_lead {n : Nat} (hn : n ≠ 0) : FP.Core.leading n 1 ≤ (n.log2 : Int) ∧ (n.log2 : Int) - 1 ≤ FP.Core.leading n 1 := by
  unfold FP.Core.leading
  have l1 : Nat.log2 1 = 0 := by decide
  rw [l1]
  dsimp only
  split <;> omega
theorem g_int {f : FP.Core.Fmt} {K : Nat} {n : Nat} {s : Bool} (ht : f.tails < 2 ^ f.p) (h0 : 0 < f.tails) (hp : 1 ≤ f.p) (hK : (K : Int) - ((f.p : Int) - 1) + 1 ≤ f.qmax) (hm : f.qmin + 1 ≤ f.qmax) (hm0 : f.qmin ≤ 0) (hn : n < 2 ^ (K + 1)) : ∃ c q, FP.Core.roundRatio f s n 1 0 = .fin s c q ∧ c < 2 ^ f.p ∧ (c < f.tails ∨ (f.qmin ≤ q ∧ (q ≤ f.qmin + 1 ∨ q ≤ (K : Int) - ((f.p : Int) - 1) + 1))) ∧ (n ≠ 0 → c ≠ 0) := by
  unfold FP.Core.roundRatio
  by_cases c0 : n = 0
  · rw [if_pos c0]; exact ⟨0, f.qmin, rfl, by omega, Or.inl h0, fun h => absurd c0 h⟩
  · rw [if_neg c0]
    have hl : n.log2 < K + 1 := (Nat.log2_lt c0).mpr hn
    have L := g_lead c0
    have hq1 : f.qmin ≤ FP.Core.quantum f n 1 0 := by unfold FP.Core.quantum; exact Int.le_max_left _ _
    have hq2 : FP.Core.quantum f n 1 0 ≤ f.qmin ∨ FP.Core.quantum f n 1 0 ≤ FP.Core.leading n 1 + 0 - ((f.p : Int) - 1) := by unfold FP.Core.quantum; omega
    generalize FP.Core.quantum f n 1 0 = q at hq1 hq2
    have nz : FP.Core.nearest (FP.Core.unitsNum n 0 q) (FP.Core.unitsDen 1 0 q) ≠ 0 := by
      refine g_nearest ?_ ?_
      · unfold FP.Core.unitsDen; rw [Nat.one_mul]; exact Nat.pos_of_ne_zero (by simp)
      · unfold FP.Core.unitsNum FP.Core.unitsDen
        rw [Nat.one_mul]
        by_cases cq : q ≤ 0
        · rw [show (q - 0).toNat = 0 by omega]
          have : 0 < 2 ^ (0 - q).toNat := Nat.pos_of_ne_zero (by simp)
          have : 1 * 1 ≤ n * 2 ^ (0 - q).toNat := Nat.mul_le_mul (by omega) (by omega)
          simpa using this
        · rw [show (0 - q).toNat = 0 by omega]
          have h1 : 2 ^ (q - 0).toNat ≤ 2 ^ n.log2 := Nat.pow_le_pow_right (by omega) (by omega)
          have h2 := Nat.log2_self_le c0
          simp only [Nat.pow_zero, Nat.mul_one]; omega
    unfold FP.Core.roundAt FP.Core.settle FP.Core.bound
    generalize FP.Core.nearest (FP.Core.unitsNum n 0 q) (FP.Core.unitsDen 1 0 q) = c at nz
    by_cases cc : c < 2 ^ f.p
    · rw [if_pos cc, if_pos (by omega)]
      exact ⟨c, q, rfl, cc, Or.inr ⟨hq1, by omega⟩, fun _ => nz⟩
    · rw [if_neg cc, if_pos (by omega)]
      exact ⟨f.tails, q + 1, rfl, ht, Or.inr ⟨by omega, by omega⟩, fun _ => by omega⟩
theorem g_T64 : FP.Core.Fmt.tails FP.Core.b64 = 4503599627370496 ∧ FP.Core.Fmt.exps FP.Core.b64 = 2048 ∧ 2 ^ FP.Core.b64.p = 9007199254740992 ∧ FP.Core.Fmt.qmin FP.Core.b64 = -1074 ∧ FP.Core.Fmt.qmax FP.Core.b64 = 971 ∧ FP.Core.b64.p = 53 := by decide +kernel
theorem g_T32 : FP.Core.Fmt.tails FP.Core.b32 = 8388608 ∧ FP.Core.Fmt.exps FP.Core.b32 = 256 ∧ 2 ^ FP.Core.b32.p = 16777216 ∧ FP.Core.Fmt.qmin FP.Core.b32 = -149 ∧ FP.Core.Fmt.qmax FP.Core.b32 = 104 ∧ FP.Core.b32.p = 24 := by decide +kernel
/-- what an encoding stands for -/
theorem g_dec64 {n : Nat} (h2 : n < 18446744073709551616) : (n % 9223372036854775808 ≤ 9218868437227405312 → FP.Core.decode FP.Core.b64 n ≠ .nan) ∧ (n % 9223372036854775808 < 9218868437227405312 → ∃ s c q, FP.Core.decode FP.Core.b64 n = .fin s c q ∧ (n % 9223372036854775808 ≠ 0 → c ≠ 0)) ∧ (n ≤ 9218868437227405312 → FP.Core.decode FP.Core.b64 n = .inf false ∨ ∃ c q, FP.Core.decode FP.Core.b64 n = .fin false c q) := by
  obtain ⟨eT, eX, -, -, -, -⟩ := g_T64
  have fE : FP.Core.fieldE FP.Core.b64 n = n / 4503599627370496 % 2048 := by unfold FP.Core.fieldE; rw [eT, eX]
  have fT : FP.Core.fieldT FP.Core.b64 n = n % 4503599627370496 := by unfold FP.Core.fieldT; rw [eT]
  have fS : FP.Core.fieldS FP.Core.b64 n = (n / 4503599627370496 / 2048 % 2 == 1) := by unfold FP.Core.fieldS; rw [eT, eX]
  unfold FP.Core.decode
  rw [fE, fT, fS, eX, eT]
  refine ⟨fun h => ?_, fun h => ?_, fun h => ?_⟩
  · by_cases c1 : n / 4503599627370496 % 2048 = 2048 - 1
    · rw [if_pos c1, if_pos (by omega)]; simp
    · rw [if_neg c1]; split <;> simp
  · rw [if_neg (by omega)]
    by_cases c1 : n / 4503599627370496 % 2048 = 0
    · rw [if_pos c1]; exact ⟨_, _, _, rfl, fun h9 => by omega⟩
    · rw [if_neg c1]; exact ⟨_, _, _, rfl, fun h9 => by omega⟩
  · have s0 : (n / 4503599627370496 / 2048 % 2 == 1) = false := by
      have : n / 4503599627370496 / 2048 = 0 := by omega
      rw [this]; rfl
    rw [s0]
    by_cases c1 : n / 4503599627370496 % 2048 = 2048 - 1
    · rw [if_pos c1, if_pos (by omega)]; exact Or.inl rfl
    · rw [if_neg c1]; split
      · exact Or.inr ⟨_, _, rfl⟩
      · exact Or.inr ⟨_, _, rfl⟩
theorem g_dec32 {n : Nat} (h2 : n < 4294967296) : (n % 2147483648 ≤ 2139095040 → FP.Core.decode FP.Core.b32 n ≠ .nan) ∧ (n % 2147483648 < 2139095040 → ∃ s c q, FP.Core.decode FP.Core.b32 n = .fin s c q ∧ (n % 2147483648 ≠ 0 → c ≠ 0)) := by
  obtain ⟨eT, eX, -, -, -, -⟩ := g_T32
  have fE : FP.Core.fieldE FP.Core.b32 n = n / 8388608 % 256 := by unfold FP.Core.fieldE; rw [eT, eX]
  have fT : FP.Core.fieldT FP.Core.b32 n = n % 8388608 := by unfold FP.Core.fieldT; rw [eT]
  unfold FP.Core.decode
  rw [fE, fT, eX, eT]
  refine ⟨fun h => ?_, fun h => ?_⟩
  · by_cases c1 : n / 8388608 % 256 = 256 - 1
    · rw [if_pos c1, if_pos (by omega)]; simp
    · rw [if_neg c1]; split <;> simp
  · rw [if_neg (by omega)]
    by_cases c1 : n / 8388608 % 256 = 0
    · rw [if_pos c1]; exact ⟨_, _, _, rfl, fun h9 => by omega⟩
    · rw [if_neg c1]; exact ⟨_, _, _, rfl, fun h9 => by omega⟩
/-- a whole number as a double: finite; not zero, if it is not -/
theorem g_i64 {i : Int} (h : i.natAbs < 2 ^ 64) : FP.Core.fromInt FP.Core.b64 i < 18446744073709551616 ∧ FP.Core.fromInt FP.Core.b64 i % 9223372036854775808 < 9218868437227405312 ∧ (i ≠ 0 → FP.Core.fromInt FP.Core.b64 i % 9223372036854775808 ≠ 0) ∧ (0 ≤ i → FP.Core.fromInt FP.Core.b64 i < 9218868437227405312) := by
  obtain ⟨eT, eX, eP, e1, e2, ep⟩ := g_T64
  obtain ⟨c, q, e, k1, k2, k3⟩ := g_int (f := FP.Core.b64) (K := 63) (n := i.natAbs) (s := decide (i < 0)) (by rw [eT, eP]; omega) (by rw [eT]; omega) (by rw [ep]; omega) (by rw [e2, ep]; omega) (by rw [e1, e2]; omega) (by rw [e1]; omega) h
  have en : FP.Core.fromInt FP.Core.b64 i = FP.Core.encode FP.Core.b64 (.fin (decide (i < 0)) c q) := by
    show FP.Core.encode FP.Core.b64 (FP.Core.roundRatio FP.Core.b64 (decide (i < 0)) i.natAbs 1 0) = _
    rw [e]
  rw [eP] at k1
  rw [eT, e1, ep] at k2
  have ee : FP.Core.encode FP.Core.b64 (.fin (decide (i < 0)) c q) = if c < FP.Core.Fmt.tails FP.Core.b64 then FP.Core.assemble FP.Core.b64 (decide (i < 0)) 0 c else FP.Core.assemble FP.Core.b64 (decide (i < 0)) ((q - FP.Core.Fmt.qmin FP.Core.b64).toNat + 1) (c - FP.Core.Fmt.tails FP.Core.b64) := rfl
  rw [en, ee, eT, e1]
  have nz : i ≠ 0 → c ≠ 0 := fun h9 => k3 (by omega)
  by_cases cc : c < 4503599627370496
  · rw [if_pos cc]
    unfold FP.Core.assemble
    rw [eT, eX]
    by_cases sg : i < 0
    · simp [sg]; omega
    · simp [sg]; omega
  · rw [if_neg cc]
    unfold FP.Core.assemble
    rw [eT, eX]
    by_cases sg : i < 0
    · simp [sg]; omega
    · simp [sg]; omega
theorem g_i32 {i : Int} (h : i.natAbs < 2 ^ 32) : FP.Core.fromInt FP.Core.b32 i < 4294967296 ∧ FP.Core.fromInt FP.Core.b32 i % 2147483648 < 2139095040 ∧ (i ≠ 0 → FP.Core.fromInt FP.Core.b32 i % 2147483648 ≠ 0) := by
  obtain ⟨eT, eX, eP, e1, e2, ep⟩ := g_T32
  obtain ⟨c, q, e, k1, k2, k3⟩ := g_int (f := FP.Core.b32) (K := 31) (n := i.natAbs) (s := decide (i < 0)) (by rw [eT, eP]; omega) (by rw [eT]; omega) (by rw [ep]; omega) (by rw [e2, ep]; omega) (by rw [e1, e2]; omega) (by rw [e1]; omega) h
  have en : FP.Core.fromInt FP.Core.b32 i = FP.Core.encode FP.Core.b32 (.fin (decide (i < 0)) c q) := by
    show FP.Core.encode FP.Core.b32 (FP.Core.roundRatio FP.Core.b32 (decide (i < 0)) i.natAbs 1 0) = _
    rw [e]
  rw [eP] at k1
  rw [eT, e1, ep] at k2
  have ee : FP.Core.encode FP.Core.b32 (.fin (decide (i < 0)) c q) = if c < FP.Core.Fmt.tails FP.Core.b32 then FP.Core.assemble FP.Core.b32 (decide (i < 0)) 0 c else FP.Core.assemble FP.Core.b32 (decide (i < 0)) ((q - FP.Core.Fmt.qmin FP.Core.b32).toNat + 1) (c - FP.Core.Fmt.tails FP.Core.b32) := rfl
  rw [en, ee, eT, e1]
  have nz : i ≠ 0 → c ≠ 0 := fun h9 => k3 (by omega)
  by_cases cc : c < 8388608
  · rw [if_pos cc]
    unfold FP.Core.assemble
    rw [eT, eX]
    by_cases sg : i < 0
    · simp [sg]; omega
    · simp [sg]; omega
  · rw [if_neg cc]
    unfold FP.Core.assemble
    rw [eT, eX]
    by_cases sg : i < 0
    · simp [sg]; omega
    · simp [sg]; omega
end -- [98e.fp]
section -- [98f.fp]
/-! Part 98f: the machine's quotients and sums are no NaN. -/
theorem g_rs (f : FP.Core.Fmt) (s : Bool) (n d : Nat) (e : Int) : FP.Core.roundRatio f s n d e = .inf s ∨ ∃ c q, FP.Core.roundRatio f s n d e = .fin s c q := by
  unfold FP.Core.roundRatio FP.Core.roundAt FP.Core.settle FP.Core.bound
  (repeat' split) <;> first | exact Or.inl rfl | exact Or.inr ⟨_, _, rfl⟩
theorem g_pos64 {d : FP.Core.Datum} (h : g_ok FP.Core.b64 d) (hs : d = .inf false ∨ ∃ c q, d = .fin false c q) : FP.Core.encode FP.Core.b64 d ≤ 9218868437227405312 := by
  obtain ⟨eT, eX, eP, e1, e2, ep⟩ := g_T64
  rcases hs with rfl | ⟨c, q, rfl⟩
  · unfold FP.Core.encode FP.Core.assemble; rw [eT, eX]; simp
  · obtain ⟨k1, k2⟩ := h.2 false c q rfl
    rw [eP] at k1
    rw [eT, e1, e2] at k2
    have ee : FP.Core.encode FP.Core.b64 (.fin false c q) = if c < FP.Core.Fmt.tails FP.Core.b64 then FP.Core.assemble FP.Core.b64 false 0 c else FP.Core.assemble FP.Core.b64 false ((q - FP.Core.Fmt.qmin FP.Core.b64).toNat + 1) (c - FP.Core.Fmt.tails FP.Core.b64) := rfl
    rw [ee, eT, e1]
    split <;> unfold FP.Core.assemble <;> rw [eT, eX] <;> simp <;> omega
theorem g_ht64 : FP.Core.Fmt.tails FP.Core.b64 < 2 ^ FP.Core.b64.p ∧ 0 < FP.Core.Fmt.tails FP.Core.b64 := by decide +kernel
theorem g_ht32 : FP.Core.Fmt.tails FP.Core.b32 < 2 ^ FP.Core.b32.p ∧ 0 < FP.Core.Fmt.tails FP.Core.b32 := by decide +kernel
theorem g_ok_z {f : FP.Core.Fmt} (h0 : 0 < f.tails) (s : Bool) (q : Int) : g_ok f (.fin s 0 q) := ⟨by simp, fun s' c' q' e => by injection e with e1 e2 e3; subst e2; exact ⟨Nat.pos_of_ne_zero (by simp), Or.inl h0⟩⟩
theorem g_ok_i {f : FP.Core.Fmt} (s : Bool) : g_ok f (.inf s) := ⟨by simp, fun s' c' q' e => by cases e⟩
/-- a quotient by what is not zero is no NaN -/
theorem g_quo {f : FP.Core.Fmt} (ht : f.tails < 2 ^ f.p) (h0 : 0 < f.tails) {s : Bool} {c : Nat} {q : Int} {y : FP.Core.Datum} (hy : y ≠ .nan) (hz : c ≠ 0 ∨ ∀ t d r, y = .fin t d r → d ≠ 0) : g_ok f (FP.Core.quotient f (.fin s c q) y) ∧ (s = false → (y = .inf false ∨ ∃ d r, y = .fin false d r) → FP.Core.quotient f (.fin s c q) y = .inf false ∨ ∃ c' q', FP.Core.quotient f (.fin s c q) y = .fin false c' q') := by
  cases y with
  | nan => exact absurd rfl hy
  | inf t =>
    refine ⟨g_ok_z h0 _ _, fun h1 h2 => ?_⟩
    rcases h2 with h2 | ⟨d, r, h2⟩
    · injection h2 with h2; subst h1; subst h2; exact Or.inr ⟨_, _, rfl⟩
    · cases h2
  | fin t d r =>
    have eq : FP.Core.quotient f (.fin s c q) (.fin t d r) = if d = 0 then (if c = 0 then .nan else .inf (s != t)) else FP.Core.roundRatio f (s != t) c d (q - r) := rfl
    rw [eq]
    by_cases d0 : d = 0
    · have c0 : c ≠ 0 := hz.resolve_right (fun h9 => h9 t d r rfl d0)
      rw [if_pos d0, if_neg c0]
      refine ⟨g_ok_i _, fun h1 h2 => ?_⟩
      rcases h2 with h2 | ⟨d, r, h2⟩
      · cases h2
      · injection h2 with h2; subst h1; subst h2; exact Or.inl rfl
    · rw [if_neg d0]
      refine ⟨g_rr ht h0 _ _ _ _, fun h1 h2 => ?_⟩
      rcases h2 with h2 | ⟨d', r', h2⟩
      · cases h2
      · injection h2 with h2; subst h1; subst h2; exact g_rs f _ _ _ _
theorem g_div64 {x y : Nat} (hx : x < 18446744073709551616) (hy : y < 18446744073709551616) (ok : g_ok FP.Core.b64 (FP.Core.quotient FP.Core.b64 (FP.Core.decode FP.Core.b64 x) (FP.Core.decode FP.Core.b64 y))) : q_n64 (FP.ddiv (UInt64.ofNat x) (UInt64.ofNat y)) = true ∧ (FP.ddiv (UInt64.ofNat x) (UInt64.ofNat y)).toNat = FP.Core.encode FP.Core.b64 (FP.Core.quotient FP.Core.b64 (FP.Core.decode FP.Core.b64 x) (FP.Core.decode FP.Core.b64 y)) := by
  have e : FP.ddiv (UInt64.ofNat x) (UInt64.ofNat y) = UInt64.ofNat (FP.Core.encode FP.Core.b64 (FP.Core.quotient FP.Core.b64 (FP.Core.decode FP.Core.b64 x) (FP.Core.decode FP.Core.b64 y))) := by
    show UInt64.ofNat (FP.Core.div FP.Core.b64 (UInt64.ofNat x).toNat (UInt64.ofNat y).toNat) = _
    rw [UInt64.toNat_ofNat_of_lt' hx, UInt64.toNat_ofNat_of_lt' hy]; rfl
  have g := g_enc64 ok
  rw [e]
  exact ⟨g_n64 g.1 g.2, UInt64.toNat_ofNat_of_lt' g.2⟩
theorem g_div32 {x y : Nat} (hx : x < 4294967296) (hy : y < 4294967296) (ok : g_ok FP.Core.b32 (FP.Core.quotient FP.Core.b32 (FP.Core.decode FP.Core.b32 x) (FP.Core.decode FP.Core.b32 y))) : q_n32 (FP.fdiv (UInt32.ofNat x) (UInt32.ofNat y)) = true ∧ (FP.fdiv (UInt32.ofNat x) (UInt32.ofNat y)).toNat = FP.Core.encode FP.Core.b32 (FP.Core.quotient FP.Core.b32 (FP.Core.decode FP.Core.b32 x) (FP.Core.decode FP.Core.b32 y)) := by
  have e : FP.fdiv (UInt32.ofNat x) (UInt32.ofNat y) = UInt32.ofNat (FP.Core.encode FP.Core.b32 (FP.Core.quotient FP.Core.b32 (FP.Core.decode FP.Core.b32 x) (FP.Core.decode FP.Core.b32 y))) := by
    show UInt32.ofNat (FP.Core.div FP.Core.b32 (UInt32.ofNat x).toNat (UInt32.ofNat y).toNat) = _
    rw [UInt32.toNat_ofNat_of_lt' hx, UInt32.toNat_ofNat_of_lt' hy]; rfl
  have g := g_enc32 ok
  rw [e]
  exact ⟨g_n32 g.1 g.2, UInt32.toNat_ofNat_of_lt' g.2⟩
-- whole numbers of the machine
theorem g_l2d {i : Int} (h : q_r64 i) : (q_l2d i).toNat = FP.Core.fromInt FP.Core.b64 i ∧ i.natAbs < 2 ^ 64 := by
  have hn : i.natAbs < 2 ^ 64 := by have := h; unfold q_r64 at this; omega
  have g := g_i64 hn
  refine ⟨?_, hn⟩
  show (Int.ofNat (UInt64.ofNat (FP.Core.fromInt FP.Core.b64 (Int64.ofInt i).toInt)).toNat).toNat = _
  rw [q_w64_m, q_w64_r h, UInt64.toNat_ofNat_of_lt' g.1]; rfl
theorem g_i2d {i : Int} (h : q_r32 i) : (q_i2d i).toNat = FP.Core.fromInt FP.Core.b64 i ∧ i.natAbs < 2 ^ 64 := by
  have hn : i.natAbs < 2 ^ 64 := by have := h; unfold q_r32 at this; omega
  have g := g_i64 hn
  refine ⟨?_, hn⟩
  show (Int.ofNat (UInt64.ofNat (FP.Core.fromInt FP.Core.b64 (Int32.ofInt i).toInt)).toNat).toNat = _
  rw [q_w32_m, q_w32_r h, UInt64.toNat_ofNat_of_lt' g.1]; rfl
theorem g_i2f {i : Int} (h : q_r32 i) : (q_i2f i).toNat = FP.Core.fromInt FP.Core.b32 i ∧ i.natAbs < 2 ^ 32 := by
  have hn : i.natAbs < 2 ^ 32 := by have := h; unfold q_r32 at this; omega
  have g := g_i32 hn
  refine ⟨?_, hn⟩
  show (Int.ofNat (UInt32.ofNat (FP.Core.fromInt FP.Core.b32 (Int32.ofInt i).toInt)).toNat).toNat = _
  rw [q_w32_m, q_w32_r h, UInt32.toNat_ofNat_of_lt' g.1]; rfl
/-- longs divided as doubles -/
theorem g_ll {i j : Int} (hi : q_r64 i) (hj : q_r64 j) (j0 : j ≠ 0) : q_n64 (FP.ddiv (UInt64.ofNat (q_l2d i).toNat) (UInt64.ofNat (q_l2d j).toNat)) = true := by
  obtain ⟨a1, a2⟩ := g_l2d hi
  obtain ⟨b1, b2⟩ := g_l2d hj
  have ga := g_i64 a2
  have gb := g_i64 b2
  obtain ⟨s, c, q, e, -⟩ := (g_dec64 ga.1).2.1 ga.2.1
  obtain ⟨t, d, r, e2, z⟩ := (g_dec64 gb.1).2.1 gb.2.1
  rw [a1, b1]
  refine (g_div64 ga.1 gb.1 ?_).1
  rw [e, e2]
  exact (g_quo g_ht64.1 g_ht64.2 (by simp) (Or.inr fun t' d' r' h => by injection h with h1 h2 h3; subst h2; exact z (gb.2.2.1 j0))).1
/-- ints divided as floats: no NaN, and what is taken from a whole number then -/
theorem g_ff {i j : Int} (hi : q_r32 i) (hj : q_r32 j) (j0 : j ≠ 0) : q_n32 (FP.fdiv (UInt32.ofNat (q_i2f i).toNat) (UInt32.ofNat (q_i2f j).toNat)) = true ∧ ∀ k, q_r32 k → q_n32 (FP.fsub (UInt32.ofNat (q_i2f k).toNat) (UInt32.ofNat (q_fdiv (q_i2f i) (q_i2f j)).toNat)) = true := by
  obtain ⟨a1, a2⟩ := g_i2f hi
  obtain ⟨b1, b2⟩ := g_i2f hj
  have ga := g_i32 a2
  have gb := g_i32 b2
  obtain ⟨s, c, q, e, -⟩ := (g_dec32 ga.1).2 ga.2.1
  obtain ⟨t, d, r, e2, z⟩ := (g_dec32 gb.1).2 gb.2.1
  have ok : g_ok FP.Core.b32 (FP.Core.quotient FP.Core.b32 (FP.Core.decode FP.Core.b32 (FP.Core.fromInt FP.Core.b32 i)) (FP.Core.decode FP.Core.b32 (FP.Core.fromInt FP.Core.b32 j))) := by
    rw [e, e2]
    exact (g_quo g_ht32.1 g_ht32.2 (by simp) (Or.inr fun t' d' r' h => by injection h with h1 h2 h3; subst h2; exact z (gb.2.2 j0))).1
  have D := g_div32 ga.1 gb.1 ok
  rw [a1, b1]
  refine ⟨D.1, fun k hk => ?_⟩
  obtain ⟨k1, k2⟩ := g_i2f hk
  have gk := g_i32 k2
  obtain ⟨s3, c3, q3, e3, -⟩ := (g_dec32 gk.1).2 gk.2.1
  have E := g_enc32 ok
  have fd : (q_fdiv (q_i2f i) (q_i2f j)).toNat = FP.Core.encode FP.Core.b32 (FP.Core.quotient FP.Core.b32 (FP.Core.decode FP.Core.b32 (FP.Core.fromInt FP.Core.b32 i)) (FP.Core.decode FP.Core.b32 (FP.Core.fromInt FP.Core.b32 j))) := by
    show (Int.ofNat (FP.fdiv (UInt32.ofNat (q_i2f i).toNat) (UInt32.ofNat (q_i2f j).toNat)).toNat).toNat = _
    rw [a1, b1]; exact D.2
  rw [k1, fd]
  have nn := (g_dec32 E.2).1 E.1
  generalize FP.Core.encode FP.Core.b32 (FP.Core.quotient FP.Core.b32 (FP.Core.decode FP.Core.b32 (FP.Core.fromInt FP.Core.b32 i)) (FP.Core.decode FP.Core.b32 (FP.Core.fromInt FP.Core.b32 j))) = y at E nn
  have es : FP.fsub (UInt32.ofNat (FP.Core.fromInt FP.Core.b32 k)) (UInt32.ofNat y) = UInt32.ofNat (FP.Core.encode FP.Core.b32 (FP.Core.round FP.Core.b32 (FP.Core.exactSum (FP.Core.decode FP.Core.b32 (FP.Core.fromInt FP.Core.b32 k)) (FP.Core.negate (FP.Core.decode FP.Core.b32 y))))) := by
    show UInt32.ofNat (FP.Core.sub FP.Core.b32 (UInt32.ofNat (FP.Core.fromInt FP.Core.b32 k)).toNat (UInt32.ofNat y).toNat) = _
    rw [UInt32.toNat_ofNat_of_lt' gk.1, UInt32.toNat_ofNat_of_lt' E.2]; rfl
  rw [es, e3]
  have okS : g_ok FP.Core.b32 (FP.Core.round FP.Core.b32 (FP.Core.exactSum (.fin s3 c3 q3) (FP.Core.negate (FP.Core.decode FP.Core.b32 y)))) := by
    generalize FP.Core.decode FP.Core.b32 y = dy at nn
    cases dy with
    | nan => exact absurd rfl nn
    | inf t => exact g_ok_i _
    | fin t d r => exact g_rr g_ht32.1 g_ht32.2 _ _ _ _
  have g := g_enc32 okS
  exact g_n32 g.1 g.2
-- doubles that are not negative
theorem g_dq {x y : Int} (hx : 0 ≤ x ∧ x < 9218868437227405312) (hy : 0 ≤ y ∧ y ≤ 9218868437227405312) (hz : x ≠ 0 ∨ (y ≠ 0 ∧ y < 9218868437227405312)) : q_n64 (FP.ddiv (UInt64.ofNat x.toNat) (UInt64.ofNat y.toNat)) = true ∧ 0 ≤ q_ddiv x y ∧ q_ddiv x y ≤ 9218868437227405312 := by
  have X := g_dec64 (n := x.toNat) (by omega)
  have Y := g_dec64 (n := y.toNat) (by omega)
  obtain ⟨s, c, q, e, zc⟩ := X.2.1 (by omega)
  have sx : s = false := by
    rcases X.2.2 (by omega) with h | ⟨c', q', h⟩
    · rw [e] at h; cases h
    · rw [e] at h; injection h
  have yn := Y.1 (by omega)
  have ys := Y.2.2 (by omega)
  have Q := g_quo (f := FP.Core.b64) (s := s) (c := c) (q := q) (y := FP.Core.decode FP.Core.b64 y.toNat) g_ht64.1 g_ht64.2 yn (by
    rcases hz with h | ⟨h, h2⟩
    · exact Or.inl (zc (by omega))
    · refine Or.inr fun t d r h9 => ?_
      obtain ⟨t', d', r', e', z'⟩ := Y.2.1 (by omega)
      rw [e'] at h9
      injection h9 with h1 h3 h4
      subst h3; exact z' (by omega))
  have ok : g_ok FP.Core.b64 (FP.Core.quotient FP.Core.b64 (FP.Core.decode FP.Core.b64 x.toNat) (FP.Core.decode FP.Core.b64 y.toNat)) := by rw [e]; exact Q.1
  have D := g_div64 (x := x.toNat) (y := y.toNat) (by omega) (by omega) ok
  refine ⟨D.1, ?_⟩
  have ev : q_ddiv x y = Int.ofNat (FP.Core.encode FP.Core.b64 (FP.Core.quotient FP.Core.b64 (FP.Core.decode FP.Core.b64 x.toNat) (FP.Core.decode FP.Core.b64 y.toNat))) := by
    unfold q_ddiv; rw [D.2]
  have P := g_pos64 ok (by rw [e]; exact Q.2 sx ys)
  rw [ev]
  exact ⟨Int.natCast_nonneg _, Int.ofNat_le.mpr P⟩
end -- [98f.fp]
section -- [98g.fp]
/-! Part 98g: sums of doubles; roots. -/
theorem g_da {x y : Int} (hx : 0 ≤ x ∧ x ≤ 9218868437227405312) (hy : 0 ≤ y ∧ y ≤ 9218868437227405312) : q_n64 (FP.dadd (UInt64.ofNat x.toNat) (UInt64.ofNat y.toNat)) = true ∧ 0 ≤ q_dadd x y ∧ q_dadd x y ≤ 9218868437227405312 := by
  have X := (g_dec64 (n := x.toNat) (by omega)).2.2 (by omega)
  have Y := (g_dec64 (n := y.toNat) (by omega)).2.2 (by omega)
  have es : FP.dadd (UInt64.ofNat x.toNat) (UInt64.ofNat y.toNat) = UInt64.ofNat (FP.Core.encode FP.Core.b64 (FP.Core.round FP.Core.b64 (FP.Core.exactSum (FP.Core.decode FP.Core.b64 x.toNat) (FP.Core.decode FP.Core.b64 y.toNat)))) := by
    show UInt64.ofNat (FP.Core.add FP.Core.b64 (UInt64.ofNat x.toNat).toNat (UInt64.ofNat y.toNat).toNat) = _
    rw [UInt64.toNat_ofNat_of_lt' (show x.toNat < 18446744073709551616 by omega), UInt64.toNat_ofNat_of_lt' (show y.toNat < 18446744073709551616 by omega)]; rfl
  have ok : g_ok FP.Core.b64 (FP.Core.round FP.Core.b64 (FP.Core.exactSum (FP.Core.decode FP.Core.b64 x.toNat) (FP.Core.decode FP.Core.b64 y.toNat))) ∧ (FP.Core.round FP.Core.b64 (FP.Core.exactSum (FP.Core.decode FP.Core.b64 x.toNat) (FP.Core.decode FP.Core.b64 y.toNat)) = .inf false ∨ ∃ c q, FP.Core.round FP.Core.b64 (FP.Core.exactSum (FP.Core.decode FP.Core.b64 x.toNat) (FP.Core.decode FP.Core.b64 y.toNat)) = .fin false c q) := by
    rcases X with X | ⟨c, q, X⟩ <;> rcases Y with Y | ⟨d, r, Y⟩ <;> rw [X, Y]
    · exact ⟨g_ok_i _, Or.inl rfl⟩
    · exact ⟨g_ok_i _, Or.inl rfl⟩
    · exact ⟨g_ok_i _, Or.inl rfl⟩
    · have sg : FP.Core.sumSign false false (FP.Core.sumUnits false c q false d r (min q r)) = false := by
        have s0 : ∀ n : Nat, FP.Core.signed false n = (n : Int) := fun _ => rfl
        unfold FP.Core.sumSign FP.Core.sumUnits
        rw [s0, s0]
        by_cases z : ((FP.Core.inUnits c q (min q r) : Nat) : Int) + ((FP.Core.inUnits d r (min q r) : Nat) : Int) = 0
        · rw [if_pos z]; rfl
        · rw [if_neg z, decide_eq_false_iff_not]; omega
      have er : FP.Core.round FP.Core.b64 (FP.Core.exactSum (.fin false c q) (.fin false d r)) = FP.Core.roundRatio FP.Core.b64 (FP.Core.sumSign false false (FP.Core.sumUnits false c q false d r (min q r))) (FP.Core.sumUnits false c q false d r (min q r)).natAbs 1 (min q r) := rfl
      rw [er, sg]
      exact ⟨g_rr g_ht64.1 g_ht64.2 _ _ _ _, g_rs _ _ _ _ _⟩
  have G := g_enc64 ok.1
  have P := g_pos64 ok.1 ok.2
  have ev : q_dadd x y = Int.ofNat (FP.Core.encode FP.Core.b64 (FP.Core.round FP.Core.b64 (FP.Core.exactSum (FP.Core.decode FP.Core.b64 x.toNat) (FP.Core.decode FP.Core.b64 y.toNat)))) := by
    unfold q_dadd; rw [es, UInt64.toNat_ofNat_of_lt' G.2]
  rw [es, ev]
  exact ⟨g_n64 G.1 G.2, Int.natCast_nonneg _, Int.ofNat_le.mpr P⟩
/-- not negative, no NaN -/
def g_P (x : Int) : Prop := 0 ≤ x ∧ x ≤ 9218868437227405312
/-- a round of Newton's -/
theorem g_newton {v r : Int} (hv : 0 < v ∧ v < 9218868437227405312) (hr : g_P r) : q_n64 (FP.ddiv (UInt64.ofNat v.toNat) (UInt64.ofNat r.toNat)) = true ∧ q_n64 (FP.dadd (UInt64.ofNat r.toNat) (UInt64.ofNat (q_ddiv v r).toNat)) = true ∧ q_n64 (FP.ddiv (UInt64.ofNat (q_dadd r (q_ddiv v r)).toNat) (UInt64.ofNat (4611686018427387904 : Int).toNat)) = true ∧ g_P (q_ddiv (q_dadd r (q_ddiv v r)) 4611686018427387904) := by
  have D := g_dq (x := v) (y := r) ⟨by omega, hv.2⟩ hr (Or.inl (by omega))
  have A := g_da (x := r) (y := q_ddiv v r) hr D.2
  by_cases c : q_dadd r (q_ddiv v r) < 9218868437227405312
  · have E := g_dq (x := q_dadd r (q_ddiv v r)) (y := 4611686018427387904) ⟨A.2.1, c⟩ (by omega) (Or.inr (by omega))
    exact ⟨D.1, A.1, E.1, E.2⟩
  · have e : q_dadd r (q_ddiv v r) = 9218868437227405312 := by have := A.2.2; omega
    rw [e]
    have k : q_n64 (FP.ddiv (UInt64.ofNat (9218868437227405312 : Int).toNat) (UInt64.ofNat (4611686018427387904 : Int).toNat)) = true ∧ q_ddiv 9218868437227405312 4611686018427387904 = 9218868437227405312 := by decide +kernel
    refine ⟨D.1, by have := A.1; exact this, k.1, by rw [k.2]; unfold g_P; omega⟩
theorem g_i2dv {i : Int} (h : 0 ≤ i ∧ i < 2147483648) : 0 ≤ q_i2d i ∧ q_i2d i < 9218868437227405312 ∧ (i ≠ 0 → 0 < q_i2d i) := by
  have r : q_r32 i := by unfold q_r32; omega
  obtain ⟨a1, a2⟩ := g_i2d r
  have g := g_i64 a2
  have p := g.2.2.2 h.1
  have n0 : 0 ≤ q_i2d i := Int.natCast_nonneg _
  refine ⟨n0, by omega, fun h9 => ?_⟩
  have := g.2.2.1 h9
  omega
theorem g_z0 : q_i2d 0 = 0 ∧ q_dcmp .l 0 0 = 0 ∧ q_l2d 0 = 0 := by decide +kernel
theorem g_crl {h : q_F} {v : Int} (hv : 0 < v ∧ v < 9218868437227405312) : ∀ (d k f : Nat) (r : Int), k + d = 60 → d < f → g_P r → ∃ x, fn80_40 h f v r k = some x ∧ g_P x := by
  intro d
  induction d with
  | zero =>
    intro k f r hk hf hr
    obtain ⟨f, rfl⟩ : ∃ f', f = f' + 1 := ⟨f - 1, by omega⟩
    exact ⟨r, by rw [fn80_40, if_pos (by omega)], hr⟩
  | succ d ih =>
    intro k f r hk hf hr
    obtain ⟨f, rfl⟩ : ∃ f', f = f' + 1 := ⟨f - 1, by omega⟩
    obtain ⟨n1, n2, n3, n4⟩ := g_newton hv hr
    rw [fn80_40, if_neg (by omega)]
    by_cases c : q_dcmp .l r 0 ≤ 0
    · rw [if_pos c]; exact ⟨r, rfl, hr⟩
    · rw [if_neg c, if_pos n1, if_pos n2, if_pos n3, q_w32_id (by omega) (by omega), ← m_s1]
      exact ih (k + 1) f _ (by omega) (by omega) n4
theorem g_rrl {h : q_F} {v : Int} (hv : 0 < v ∧ v < 9218868437227405312) : ∀ (d k f : Nat) (r : Int), k + d = 60 → d < f → g_P r → ∃ x, fn323_13 h f v r k = some x ∧ g_P x := by
  intro d
  induction d with
  | zero =>
    intro k f r hk hf hr
    obtain ⟨f, rfl⟩ : ∃ f', f = f' + 1 := ⟨f - 1, by omega⟩
    exact ⟨r, by rw [fn323_13, if_pos (by omega)], hr⟩
  | succ d ih =>
    intro k f r hk hf hr
    obtain ⟨f, rfl⟩ : ∃ f', f = f' + 1 := ⟨f - 1, by omega⟩
    obtain ⟨n1, n2, n3, n4⟩ := g_newton hv hr
    rw [fn323_13, if_neg (by omega), if_pos n1, if_pos n2, if_pos n3, q_w32_id (by omega) (by omega), ← m_s1]
    exact ih (k + 1) f _ (by omega) (by omega) n4
theorem g_croot {h : q_F} {i : Int} (hi : 0 ≤ i ∧ i < 2147483648) : ∃ x, fn80_40 h q_fu (q_i2d i) (q_i2d i) 0 = some x ∧ g_P x := by
  have g := g_i2dv hi
  by_cases c : i = 0
  · subst c
    obtain ⟨n, e⟩ := m_fu3
    rw [e, g_z0.1, fn80_40, if_neg (by omega), g_z0.2.1, if_pos (by omega)]
    exact ⟨0, rfl, by unfold g_P; omega⟩
  · exact g_crl ⟨g.2.2 c, g.2.1⟩ 60 0 q_fu _ (by omega) (by have := q_fu_ge; omega) ⟨g.1, by omega⟩
theorem g_rroot {h : q_F} {i : Int} (hi : 0 ≤ i ∧ i < 2147483648) : ∃ x, fn323 (q_i2d i) h = some x ∧ g_P x := by
  have g := g_i2dv hi
  unfold fn323
  by_cases c : i = 0
  · subst c
    rw [g_z0.1, g_z0.2.1, if_pos rfl]
    exact ⟨0, rfl, by unfold g_P; omega⟩
  · split
    · exact ⟨0, rfl, by unfold g_P; omega⟩
    · exact g_rrl ⟨g.2.2 c, g.2.1⟩ 60 0 q_fu _ (by omega) (by have := q_fu_ge; omega) ⟨g.1, by omega⟩
theorem m_sqr {d : Int} (h : -2000 ≤ d ∧ d ≤ 2000) : 0 ≤ d * d ∧ d * d ≤ 4000000 := by
  by_cases c : 0 ≤ d
  · have := m_mulr (x := d) (l := d) (a := 2000) (b := 2000) c h.2 c h.2; omega
  · have := m_mulr (x := -d) (l := -d) (a := 2000) (b := 2000) (by omega) (by omega) (by omega) (by omega)
    rw [Int.neg_mul_neg] at this; omega
theorem c_len {h : q_F} {p : Nat → Int} (ok : m_ok p) (hP : c_Plan h p) {m : Nat} (hm : (m : Int) < p 4) : ∃ x, fn80 m h = some x ∧ g_P x := by
  have h16 := ok.2.1
  obtain ⟨n, e⟩ := m_fu3
  have st : ∀ (a f : Nat) (u : Int), a < 3 → 0 ≤ u → u ≤ 100000000 → ∃ u', 0 ≤ u' ∧ u' ≤ u + 4000000 ∧ fn80_4 h (f + 1) m u a = fn80_4 h f m u' ((a + 1 : Nat) : Int) := fun a f u ha u0 u1 => by
    have sq := m_sqr (m_d_r ok (m := m) (a := a) (by omega) ha)
    refine ⟨u + m_d p m a * m_d p m a, by omega, by omega, ?_⟩
    rw [fn80_4, if_neg (by omega), c_dis ok hP hm ha, Option.bind_some, Option.bind_some, q_w32_id (z := m_d p m a * m_d p m a) (by omega) (by omega), q_w32_id (z := u + m_d p m a * m_d p m a) (by omega) (by omega), q_w32_id (by omega) (by omega), ← m_s1]
  obtain ⟨u1, a1, a2, a3⟩ := st 0 (n + 1 + 1 + 1) 0 (by omega) (by omega) (by omega)
  obtain ⟨u2, b1, b2, b3⟩ := st 1 (n + 1 + 1) u1 (by omega) (by omega) (by omega)
  obtain ⟨u3, d1, d2, d3⟩ := st 2 (n + 1) u2 (by omega) (by omega) (by omega)
  obtain ⟨x, x1, x2⟩ := g_croot (h := h) (i := u3) (by omega)
  refine ⟨x, ?_, x2⟩
  rw [fn80, e]
  refine a3.trans (b3.trans (d3.trans ?_))
  rw [fn80_4, if_pos (by omega)]; exact x1
theorem r_len {h : q_F} {p : Nat → Int} (ok : m_ok p) (hP : m_PA h p (p 4).toNat) {m : Nat} (hm : (m : Int) < p 4) : ∃ x, fn282 m h = some x ∧ g_P x := by
  have h16 := ok.2.1
  obtain ⟨n, e⟩ := m_fu3
  have st : ∀ (a f : Nat) (u : Int), a < 3 → 0 ≤ u → u ≤ 100000000 → ∃ u', 0 ≤ u' ∧ u' ≤ u + 4000000 ∧ fn282_4 h (f + 1) m u a = fn282_4 h f m u' ((a + 1 : Nat) : Int) := fun a f u ha u0 u1 => by
    have sq := m_sqr (m_d_r ok (m := m) (a := a) (by omega) ha)
    refine ⟨u + m_d p m a * m_d p m a, by omega, by omega, ?_⟩
    rw [fn282_4, if_neg (by omega), q_w32_id (z := 3 * (m : Int)) (by omega) (by omega), q_w32_id (z := 3 * (m : Int) + a) (by omega) (by omega), if_pos (by omega), if_pos (by omega), show (3 * (m : Int) + a).toNat = 3 * m + a by omega, (hP m (by omega)).1 a ha, q_w32_id (z := m_d p m a * m_d p m a) (by omega) (by omega), q_w32_id (z := u + m_d p m a * m_d p m a) (by omega) (by omega), q_w32_id (by omega) (by omega), ← m_s1]
  obtain ⟨u1, a1, a2, a3⟩ := st 0 (n + 1 + 1 + 1) 0 (by omega) (by omega) (by omega)
  obtain ⟨u2, b1, b2, b3⟩ := st 1 (n + 1 + 1) u1 (by omega) (by omega) (by omega)
  obtain ⟨u3, d1, d2, d3⟩ := st 2 (n + 1) u2 (by omega) (by omega) (by omega)
  obtain ⟨x, x1, x2⟩ := g_rroot (h := h) (i := u3) (by omega)
  refine ⟨x, ?_, x2⟩
  rw [fn282, e]
  refine a3.trans (b3.trans (d3.trans ?_))
  rw [fn282_4, if_pos (by omega), x1, Option.bind_some]
end -- [98g.fp]
section -- [98h.dask]
/-! Part 98h: the questions that answer doubles and floats end. -/
theorem c_line {m : Int} {h : q_F} {S : m_St} (hI : c_I h S) (hm : m_I S) : c_E (fn186 m h) h S (fun k => k = 1 ∨ k = 3) := by
  unfold fn186
  refine c_moveQ hI (fun m0 m1 => ?_) (c_E_i hI (Or.inr rfl))
  dsimp only
  rw [if_pos rfl]
  refine c_planQ hI hm fun g I P L => ?_
  obtain ⟨n, rfl⟩ : ∃ k : Nat, m = k := ⟨m.toNat, by omega⟩
  obtain ⟨x, e, -⟩ := c_len (m_R0_ok hm.1.1) P m1
  dsimp only
  rw [e, Option.bind_some]; exact c_E_i I (Or.inl rfl)
theorem c_qlenl {h : q_F} {S : m_St} (hI : c_I h S) (hm : m_I S) (P : c_Plan h S.w) : ∀ (d m f : Nat) (u : Int), m + d = (S.w 4).toNat → d < f → g_P u → c_W (fn199_10 f u m h) h S := by
  have r := (m_R0_ok hm.1.1).2.1
  have e9 := P.2.2.2.1
  intro d
  induction d with
  | zero =>
    intro m f u hd hf hu
    obtain ⟨f, rfl⟩ : ∃ f', f = f' + 1 := ⟨f - 1, by omega⟩
    rw [fn199_10, e9, if_pos (by omega)]; exact c_W_i hI
  | succ d ih =>
    intro m f u hd hf hu
    obtain ⟨f, rfl⟩ : ∃ f', f = f' + 1 := ⟨f - 1, by omega⟩
    obtain ⟨x, e, hx⟩ := c_len (m := m) (m_R0_ok hm.1.1) P (by omega)
    have A := g_da hu hx
    rw [fn199_10, e9, if_neg (by omega), e, Option.bind_some, if_pos A.1, q_w32_id (by omega) (by omega), ← m_s1]
    exact ih (m + 1) f _ (by omega) (by omega) A.2
theorem c_qlen {h : q_F} {S : m_St} (hI : c_I h S) (hm : m_I S) : c_W (fn199 h) h S := by
  have r := (m_R0_ok hm.1.1).2.1
  unfold fn199
  refine c_planW hI hm fun g I P L => ?_
  exact c_qlenl I hm P (S.w 4).toNat 0 q_fu 0 (by omega) (by have := q_fu_ge; omega) (by unfold g_P; omega)
theorem c_U9699 (a b c d : Int) (h : q_F) : ∃ v, fn96_99 a b c d h = some v ∧ q_r64 v := by
  unfold fn96_99
  obtain ⟨v, e⟩ := c_T201 1000000 a h
  rw [e, Option.bind_some]; exact ⟨_, rfl, q_wr64 _⟩
theorem c_U9660 {m c : Int} {h : q_F} : ∀ (d : Nat) (x y k : Int) (f : Nat), y ≤ 3000 → 0 ≤ x → y ≤ x + d → d < f → ∃ v, fn96_60 h f m c k x y = some v ∧ q_r64 v := by
  intro d
  induction d with
  | zero =>
    intro x y k f hy hx hd hf
    obtain ⟨f, rfl⟩ : ∃ f', f = f' + 1 := ⟨f - 1, by omega⟩
    rw [fn96_60, if_pos (by omega)]; exact c_U9699 _ _ _ _ _
  | succ d ih =>
    intro x y k f hy hx hd hf
    obtain ⟨f, rfl⟩ : ∃ f', f = f' + 1 := ⟨f - 1, by omega⟩
    rw [fn96_60]
    by_cases c1 : y ≤ x
    · rw [if_pos c1]; exact c_U9699 _ _ _ _ _
    · obtain ⟨v, e1⟩ := c_T93 m (q_w32 (y - 1)) h
      obtain ⟨u, e2⟩ := c_T95 m (q_w32 (y + -1)) h
      rw [if_neg c1, e1, Option.bind_some]
      split
      · exact c_U9699 _ _ _ _ _
      · rw [e2, Option.bind_some, q_w32_id (z := y + -1) (by omega) (by omega)]
        exact ih x (y + -1) _ f (by omega) hx (by omega) (by omega)
theorem c_U9621 {m c l : Int} {h : q_F} (hl : l ≤ 2000) : ∀ (d : Nat) (x k : Int) (f : Nat), 0 ≤ x → x ≤ 3000 → l ≤ x + d → d < f → ∃ v, fn96_21 h f m c l k x = some v ∧ q_r64 v := by
  intro d
  induction d with
  | zero =>
    intro x k f hx _ hd hf
    obtain ⟨f, rfl⟩ : ∃ f', f = f' + 1 := ⟨f - 1, by omega⟩
    rw [fn96_21, if_pos (by omega), fn96_57]; exact c_U9660 2000 x l k q_fu (by omega) hx (by omega) (by have := q_fu_ge; omega)
  | succ d ih =>
    intro x k f hx h3 hd hf
    obtain ⟨f, rfl⟩ : ∃ f', f = f' + 1 := ⟨f - 1, by omega⟩
    have fin : ∃ v, fn96_57 m c l k x h = some v ∧ q_r64 v := by rw [fn96_57]; exact c_U9660 2000 x l k q_fu (by omega) hx (by omega) (by have := q_fu_ge; omega)
    obtain ⟨v, e1⟩ := c_T93 m x h
    obtain ⟨u, e2⟩ := c_T95 m x h
    rw [fn96_21]
    by_cases c1 : l ≤ x
    · rw [if_pos c1]; exact fin
    · rw [if_neg c1, e1, Option.bind_some]
      split
      · exact fin
      · rw [e2, Option.bind_some, q_w32_id (z := x + 1) (by omega) (by omega)]
        exact ih (x + 1) _ f (by omega) (by omega) (by omega) (by omega)
theorem c_ratio {a b : Int} (ha : q_r64 a) (hb : q_r64 b) (h : q_F) : ∃ v, fn203 (q_l2d a) (q_l2d b) h = some v := by
  unfold fn203
  by_cases c : b = 0
  · subst c
    rw [g_z0.2.2, g_z0.2.1, if_pos (by omega)]; exact ⟨_, rfl⟩
  · rw [if_pos (g_ll ha hb c)]
    split <;> exact ⟨_, rfl⟩
theorem c_mspeed {m : Int} {h : q_F} {S : m_St} (hI : c_I h S) (hm : m_I S) : c_E (fn190 m h) h S (fun k => k = 1 ∨ k = 3) := by
  unfold fn190
  refine c_moveQ hI (fun m0 m1 => ?_) (c_E_i hI (Or.inr rfl))
  dsimp only
  rw [if_pos rfl]
  refine c_planQ hI hm fun g I P L => ?_
  obtain ⟨l, e, l0, l1⟩ := c_Ld_m hm P m0 m1
  obtain ⟨v, e1⟩ := c_ent_t 130 16 m g
  obtain ⟨t, et, rt⟩ := c_U9621 (m := m) (c := v) (h := g) l1 2000 0 0 q_fu (by omega) (by omega) (by omega) (by have := q_fu_ge; omega)
  obtain ⟨x, ex⟩ := c_ratio (q_wr64 (1000000 * l)) rt g
  dsimp only
  rw [e, Option.bind_some, fn96, e1, Option.bind_some, e, Option.bind_some, et, Option.bind_some, ex, Option.bind_some]
  exact c_E_i I (Or.inl rfl)
theorem c_mdur {h : q_F} (h9 : q_r64 (h 6 9)) (h10 : q_r64 (h 6 10)) : ∃ v, fn189 h = some v := by
  unfold fn189
  split
  · exact ⟨_, rfl⟩
  · obtain ⟨x, ex⟩ := c_ratio h9 h10 h
    rw [ex, Option.bind_some]; exact ⟨_, rfl⟩
theorem c_lost2 {a : Int} {h : q_F} {S : m_St} (hI : c_I h S) : c_E (fn188 a h) h S (fun k => k = 1 ∨ k = 3) := by
  unfold fn188
  refine c_axisQ (fun a0 a1 => ?_) (c_E_i hI (Or.inr rfl))
  obtain ⟨n, hn, rfl⟩ := m_ax_n ⟨a0, a1⟩
  have e2 : h (q_axn 6 (n : Int) + 1) 2 = q_w32 (S.w (35 + n)) := by rw [q_axn_e hn]; exact (hI.1.1 n hn).2 2 (by omega)
  have r2 : q_r32 (h (q_axn 6 (n : Int) + 1) 2) := by rw [e2]; exact q_wr _
  dsimp only
  rw [if_pos rfl]
  by_cases c : q_w32 (h (q_axn 6 (n : Int) + 1) 0 + h (q_axn 6 (n : Int) + 1) 1) = 0
  · rw [if_pos c]; exact c_E_i hI (Or.inl rfl)
  · rw [if_neg c, if_pos (g_ff r2 (q_wr _) c).1]; exact c_E_i hI (Or.inl rfl)
theorem m_made_r {p : Nat → Int} (ok : m_ok p) (nn : m_nn p) {m a : Nat} {k : Int} (hm : (m : Int) < p 4) (ha : a < 3) (h0 : 0 ≤ k) (h1 : k ≤ m_l p m) : q_r32 (m_made p m a k) := by
  have h16 := ok.2.1
  have l := m_l_r ok (m := m) (by omega)
  have l1 := m_l_1 ok (m := m) (by omega) (nn m hm)
  have d := m_d_r ok (m := m) (by omega) ha
  have da := m_abs_r d
  have g := m_mulr (x := 2 * k) (l := m_abs (m_d p m a)) (a := 4000) (b := 2000) (by omega) (by omega) (by omega) (by omega)
  unfold m_made
  rw [m_idv (by omega) (by omega) (by omega) (by omega)]
  have g0 : 0 ≤ (2 * k * m_abs (m_d p m a) + m_l p m) / (2 * m_l p m) := Int.ediv_nonneg (by omega) (by omega)
  have g1 : (2 * k * m_abs (m_d p m a) + m_l p m) / (2 * m_l p m) ≤ 2 * k * m_abs (m_d p m a) + m_l p m := Int.ediv_le_self _ (by omega)
  unfold q_r32; omega
theorem c_off {h : q_F} {p : Nat → Int} (ok : m_ok p) (nn : m_nn p) (hP : c_Plan h p) {m a : Nat} {k : Int} (hm : (m : Int) < p 4) (ha : a < 3) (h0 : 0 ≤ k) (h1 : k ≤ m_l p m) : ∃ v, fn86 m a k h = some v := by
  have h16 := ok.2.1
  have l := m_l_r ok (m := m) (by omega)
  have l1 := m_l_1 ok (m := m) (by omega) (nn m hm)
  have d := m_d_r ok (m := m) (by omega) ha
  have G := g_ff (i := q_w32 (k * qx_ab (m_d p m a))) (j := m_l p m) (q_wr _) (by unfold q_r32; omega) (by omega)
  rw [fn86, c_lead (hP.1.2 m (by omega)).1 (by omega), Option.bind_some, if_neg (by omega), c_dis ok hP hm ha, Option.bind_some, if_pos G.1, c_made ok nn hP hm ha h0 h1, Option.bind_some, if_pos (G.2 _ (m_made_r ok nn hm ha h0 h1))]
  split <;> exact ⟨_, rfl⟩
theorem c_devk {h : q_F} {p : Nat → Int} (ok : m_ok p) (nn : m_nn p) (hP : c_Plan h p) {m a : Nat} {K4 : Int → Int → Int → Option Int} (hm : (m : Int) < p 4) (ha : a < 3) (hK : ∀ u, ∃ v, K4 m u ((a + 1 : Nat) : Int) = some v) : ∀ (d k f : Nat) (u : Int), (k : Int) + d = m_l p m + 1 → d < f → ∃ v, fn75_12 K4 h f m u a k = some v := by
  have h16 := ok.2.1
  have l := m_l_r ok (m := m) (by omega)
  intro d
  induction d with
  | zero =>
    intro k f u hd hf
    obtain ⟨f, rfl⟩ : ∃ f', f = f' + 1 := ⟨f - 1, by omega⟩
    rw [fn75_12, c_lead (hP.1.2 m (by omega)).1 (by omega), Option.bind_some, if_pos (by omega), q_w32_id (by omega) (by omega), ← m_s1]
    exact hK u
  | succ d ih =>
    intro k f u hd hf
    obtain ⟨f, rfl⟩ : ∃ f', f = f' + 1 := ⟨f - 1, by omega⟩
    obtain ⟨x, ex⟩ := c_off ok nn hP (k := k) hm ha (by omega) (by omega)
    rw [fn75_12, c_lead (hP.1.2 m (by omega)).1 (by omega), Option.bind_some, if_neg (by omega), ex, Option.bind_some, fn75_45, fn75_45, q_w32_id (z := (k : Int) + 1) (by omega) (by omega), ← m_s1]
    split <;> exact ih (k + 1) f _ (by omega) (by omega)
theorem c_deva {h : q_F} {p : Nat → Int} (ok : m_ok p) (nn : m_nn p) (hP : c_Plan h p) {m : Nat} (hm : (m : Int) < p 4) : ∀ (d a f : Nat) (u : Int), a + d = 3 → d < f → ∃ v, fn75_4 h f m u a = some v := by
  have h16 := ok.2.1
  have l := m_l_r ok (m := m) (by omega)
  intro d
  induction d with
  | zero =>
    intro a f u ha hf
    obtain ⟨f, rfl⟩ : ∃ f', f = f' + 1 := ⟨f - 1, by omega⟩
    exact ⟨u, by rw [fn75_4, if_pos (by omega)]⟩
  | succ d ih =>
    intro a f u ha hf
    obtain ⟨f, rfl⟩ : ∃ f', f = f' + 1 := ⟨f - 1, by omega⟩
    rw [fn75_4, if_neg (by omega)]
    exact c_devk ok nn hP hm (by omega) (fun u => ih (a + 1) f u (by omega) (by omega)) (m_l p m + 1).toNat 0 q_fu u (by omega) (by have := q_fu_ge; omega)
theorem c_dev {m : Int} {h : q_F} {S : m_St} (hI : c_I h S) (hm : m_I S) : c_E (fn172 m h) h S (fun k => k = 1 ∨ k = 3) := by
  unfold fn172
  refine c_moveQ hI (fun m0 m1 => ?_) (c_E_i hI (Or.inr rfl))
  dsimp only
  rw [if_pos rfl]
  refine c_planQ hI hm fun g I P L => ?_
  obtain ⟨n, rfl⟩ : ∃ k : Nat, m = k := ⟨m.toNat, by omega⟩
  obtain ⟨x, e⟩ := c_deva (m_R0_ok hm.1.1) hm.1.2 P m1 3 0 q_fu 0 (by omega) (by have := q_fu_ge; omega)
  have e' : fn75 n g = some x := e
  dsimp only
  rw [e', Option.bind_some]; exact c_E_i I (Or.inl rfl)
end -- [98h.dask]
section -- [98h1.flo]
/-! Part 98h1: floats that are numbers. -/
def g_V (v : Int) : Prop := q_n32 (UInt32.ofNat v.toNat) = true
theorem g_V0 : g_V 0 := by unfold g_V; decide +kernel
theorem g_Vof {x : UInt32} (h : q_n32 x = true) : g_V (Int.ofNat x.toNat) := by
  unfold g_V
  rw [show (Int.ofNat x.toNat).toNat = x.toNat from rfl, UInt32.ofNat_toNat]; exact h
theorem g_V_neg {v : Int} (h : g_V v) : g_V (q_fneg v) := by
  unfold q_fneg
  apply g_Vof
  unfold g_V at h
  generalize UInt32.ofNat v.toNat = x at h
  show q_n32 (x ^^^ 0x80000000) = true
  unfold q_n32 at h ⊢
  rw [decide_eq_true_iff, UInt32.le_iff_toNat_le, UInt32.toNat_and] at h ⊢
  rw [UInt32.toNat_xor, Nat.and_xor_distrib_right, show (0x80000000 : UInt32).toNat &&& (0x7fffffff : UInt32).toNat = 0 by decide, Nat.xor_zero]
  exact h
theorem g_V_mx {a b : Int} (ha : g_V a) (hb : g_V b) : g_V (q_fmxi a b) := by
  unfold q_fmxi
  apply g_Vof
  unfold g_V at ha hb
  generalize UInt32.ofNat a.toNat = x at ha ⊢
  generalize UInt32.ofNat b.toNat = y at hb ⊢
  have e : q_fmx x y = x ∨ q_fmx x y = y := by
    unfold q_fmx Native.java_lang_Math.nans.pick32
    split
    · exact Or.inr rfl
    · exact Or.inl rfl
    · split
      · exact Or.inr rfl
      · exact Or.inl rfl
  rcases e with e | e
  · rw [e]; exact ha
  · rw [e]; exact hb
end -- [98h1.flo]
section -- [98i.dask]
/-! Part 98i: the reference's questions that answer doubles and floats end. -/
theorem r_line {m : Int} {h : q_F} {S : m_St} (hI : r_I h S) (hm : m_I S) : r_W (fn281 m h) h S := by
  unfold fn281
  refine r_moveQ hI hm (fun m0 m1 g I _ => ?_) (fun g I => r_W_i I)
  dsimp only
  rw [if_pos rfl]
  refine r_planQ I hm fun g I P => ?_
  obtain ⟨n, rfl⟩ : ∃ k : Nat, m = k := ⟨m.toNat, by omega⟩
  obtain ⟨x, e, -⟩ := r_len (m_R0_ok hm.1.1) P.1 m1
  dsimp only
  rw [e, Option.bind_some]; exact r_W_i I
theorem r_qlenl {h : q_F} {S : m_St} (hI : r_I h S) (hm : m_I S) (P : m_Plan h S.w) : ∀ (d m f : Nat) (u : Int), m + d = (S.w 4).toNat → d < f → g_P u → r_W (fn310_13 f u m h) h S := by
  have r := (m_R0_ok hm.1.1).2.1
  intro d
  induction d with
  | zero =>
    intro m f u hd hf hu
    obtain ⟨f, rfl⟩ : ∃ f', f = f' + 1 := ⟨f - 1, by omega⟩
    rw [fn310_13, hI.1, if_pos (by omega)]; exact r_W_i hI
  | succ d ih =>
    intro m f u hd hf hu
    obtain ⟨f, rfl⟩ : ∃ f', f = f' + 1 := ⟨f - 1, by omega⟩
    obtain ⟨x, e, hx⟩ := r_len (m := m) (m_R0_ok hm.1.1) P.1 (by omega)
    have A := g_da hu hx
    rw [fn310_13, hI.1, if_neg (by omega), e, Option.bind_some, if_pos A.1, q_w32_id (by omega) (by omega), ← m_s1]
    exact ih (m + 1) f _ (by omega) (by omega) A.2
theorem r_qlen {h : q_F} {S : m_St} (hI : r_I h S) (hm : m_I S) : r_W (fn310 h) h S := by
  have r := (m_R0_ok hm.1.1).2.1
  unfold fn310
  rw [m_let]
  refine r_g7 hI fun I => ?_
  refine r_planQ I hm fun g I P => ?_
  exact r_qlenl I hm P (S.w 4).toNat 0 q_fu 0 (by omega) (by have := q_fu_ge; omega) (by unfold g_P; omega)
theorem m_t_r {p : Nat → Int} (ok : m_ok p) (nn : m_nn p) {m : Nat} {k : Int} (hm : (m : Int) < p 4) (h0 : 0 ≤ k) (h1 : k < m_l p m) : 1 ≤ m_t p m k ∧ m_t p m k ≤ 1000000 := by
  have s := m_sp_r ok nn hm h0 h1
  unfold m_t
  rw [m_ldv (by omega) (by omega) (by omega) (by omega)]
  exact ⟨by rw [Int.le_ediv_iff_mul_le (by omega)]; omega, Int.ediv_le_self _ (by omega)⟩
theorem r_mspl {h : q_F} {S : m_St} {m : Nat} (hI : r_I h S) (hm : m_I S) (P : m_Plan h S.w) (h4 : (m : Int) < S.w 4) : ∀ (d k f : Nat) (u : Int), (k : Int) + d = m_l S.w m → d < f → (k : Int) ≤ u → u ≤ 1000000 * (k : Int) → r_W (fn293_19 f m u k h) h S := by
  have ok := m_R0_ok hm.1.1
  have r := ok.2.1
  have l := m_l_r ok (m := m) (by omega)
  have l1 := m_l_1 ok (m := m) (by omega) (hm.1.2 m h4)
  have e := (P.1 m (by omega)).2.1
  intro d
  induction d with
  | zero =>
    intro k f u hd hf u0 u1
    obtain ⟨f, rfl⟩ : ∃ f', f = f' + 1 := ⟨f - 1, by omega⟩
    rw [fn293_19, if_pos (by omega), Int.toNat_natCast, e, if_pos (by omega), if_pos (by omega), if_pos (g_ll (q_wr64 _) (by unfold q_r64; omega) (by omega))]
    exact r_W_i hI
  | succ d ih =>
    intro k f u hd hf u0 u1
    obtain ⟨f, rfl⟩ : ∃ f', f = f' + 1 := ⟨f - 1, by omega⟩
    have t := m_t_r ok hm.1.2 (m := m) (k := (k : Int)) h4 (by omega) (by omega)
    rw [fn293_19, if_pos (by omega), Int.toNat_natCast, e, if_neg (by omega), fn275_m ok hm.1.2 P h4 (by omega) (by omega), Option.bind_some, q_w64_id (by omega) (by omega), q_w32_id (by omega) (by omega), ← m_s1]
    exact ih (k + 1) f _ (by omega) (by omega) (by omega) (by omega)
theorem r_msp {m : Int} {h : q_F} {S : m_St} (hI : r_I h S) (hm : m_I S) : r_W (fn293 m h) h S := by
  have ok := m_R0_ok hm.1.1
  have r := ok.2.1
  unfold fn293
  refine r_moveQ hI hm (fun m0 m1 g I _ => ?_) (fun g I => r_W_i I)
  dsimp only
  rw [if_pos rfl]
  refine r_planQ I hm fun g I P => ?_
  obtain ⟨n, rfl⟩ : ∃ k : Nat, m = k := ⟨m.toNat, by omega⟩
  have l := m_l_r ok (m := n) (by omega)
  exact r_mspl I hm P m1 (m_l S.w n).toNat 0 q_fu 0 (by omega) (by have := q_fu_ge; omega) (by omega) (by omega)
theorem r_mdur {h : q_F} {S : m_St} (hI : r_I h S) (h6 : q_r64 (S.w 6)) (h7 : q_r64 (S.w 7)) : r_W (fn292 h) h S := by
  unfold fn292
  rw [m_let]
  refine r_g7 hI fun I => ?_
  rw [I.1]
  by_cases c : S.w 7 = 0
  · rw [if_pos c]; exact r_W_i I
  · rw [if_neg c, if_pos (g_ll h6 h7 c)]; exact r_W_i I
theorem r_lost2 {a : Int} {h : q_F} {S : m_St} (hI : r_I h S) : r_W (fn285 a h) h S := by
  unfold fn285
  refine r_axisQ hI (fun a0 a1 g I _ => ?_) (fun g I => r_W_i I)
  dsimp only
  rw [if_pos rfl, q_w32_id (z := 56 + a) (by omega) (by omega), fn303_i (by omega) (by omega), Option.bind_some, q_w32_id (z := 59 + a) (by omega) (by omega), fn303_i (by omega) (by omega), Option.bind_some]
  split
  · exact r_W_i I
  · rename_i c
    rw [q_w32_id (z := 35 + a) (by omega) (by omega), fn303_i (by omega) (by omega), Option.bind_some, if_pos (g_ff (q_wr _) (q_wr _) c).1]
    exact r_W_i I
theorem r_devk {h : q_F} {p : Nat → Int} (ok : m_ok p) (nn : m_nn p) (hP : m_Plan h p) {m k : Nat} {K18 : Int → Int → Int → q_F → Option (Int × q_F)} (hm : (m : Int) < p 4) (hk : (k : Int) ≤ m_l p m) (hK : ∀ u, g_V u → ∃ v, K18 m u ((k + 1 : Nat) : Int) h = some (v, h)) : ∀ (d a f : Nat) (u : Int), g_V u → a + d = 3 → d < f → ∃ v, fn251_31 K18 f m u k a h = some (v, h) := by
  have h16 := ok.2.1
  have l := m_l_r ok (m := m) (by omega)
  have l1 := m_l_1 ok (m := m) (by omega) (nn m hm)
  intro d
  induction d with
  | zero =>
    intro a f u hu ha hf
    obtain ⟨f, rfl⟩ : ∃ f', f = f' + 1 := ⟨f - 1, by omega⟩
    rw [fn251_31, if_pos (by omega), q_w32_id (by omega) (by omega), ← m_s1]
    exact hK u hu
  | succ d ih =>
    intro a f u hu ha hf
    obtain ⟨f, rfl⟩ : ∃ f', f = f' + 1 := ⟨f - 1, by omega⟩
    have ha3 : a < 3 := by omega
    have dd := m_d_r ok (m := m) (by omega) ha3
    have G := g_ff (i := q_w32 ((k : Int) * m_abs (m_d p m a))) (j := m_l p m) (q_wr _) (by unfold q_r32; omega) (by omega)
    have W0 := G.2 _ (m_made_r ok nn hm ha3 (by omega) hk)
    rw [fn251_31, if_neg (by omega), fn286_m ok nn hP.1 hm ha3 (by omega) hk, Option.bind_some, q_w32_id (z := 3 * (m : Int)) (by omega) (by omega), q_w32_id (z := 3 * (m : Int) + a) (by omega) (by omega), if_pos (by omega), show (3 * (m : Int) + a).toNat = 3 * m + a by omega, (hP.1 m (by omega)).1 a ha3, fn236_i (by omega) (by omega), Option.bind_some, if_pos (show 0 ≤ (m : Int) ∧ (m : Int) < 16 by omega), Int.toNat_natCast, (hP.1 m (by omega)).2.1, if_pos G.1, if_pos W0, fn251_90, fn251_90, q_w32_id (z := (a : Int) + 1) (by omega) (by omega), ← m_s1]
    split
    · rw [if_pos ⟨hu, g_Vof W0⟩]
      exact ih (a + 1) f _ (g_V_mx hu (g_Vof W0)) (by omega) (by omega)
    · rw [if_pos ⟨hu, g_V_neg (g_Vof W0)⟩]
      exact ih (a + 1) f _ (g_V_mx hu (g_V_neg (g_Vof W0))) (by omega) (by omega)
theorem r_devl {h : q_F} {p : Nat → Int} (ok : m_ok p) (nn : m_nn p) (hP : m_Plan h p) {m : Nat} (hm : (m : Int) < p 4) : ∀ (d k f : Nat) (u : Int), g_V u → (k : Int) + d = m_l p m + 1 → d < f → ∃ v, fn251_18 f m u k h = some (v, h) := by
  have h16 := ok.2.1
  have l := m_l_r ok (m := m) (by omega)
  intro d
  induction d with
  | zero =>
    intro k f u hu hd hf
    obtain ⟨f, rfl⟩ : ∃ f', f = f' + 1 := ⟨f - 1, by omega⟩
    exact ⟨u, by rw [fn251_18, if_pos (by omega), Int.toNat_natCast, (hP.1 m (by omega)).2.1, if_pos (by omega)]⟩
  | succ d ih =>
    intro k f u hu hd hf
    obtain ⟨f, rfl⟩ : ∃ f', f = f' + 1 := ⟨f - 1, by omega⟩
    rw [fn251_18, if_pos (by omega), Int.toNat_natCast, (hP.1 m (by omega)).2.1, if_neg (by omega)]
    exact r_devk ok nn hP hm (by omega) (fun u hu => ih (k + 1) f u hu (by omega) (by omega)) 3 0 q_fu u hu (by omega) (by have := q_fu_ge; omega)
theorem r_dev {m : Int} {h : q_F} {S : m_St} (hI : r_I h S) (hm : m_I S) : r_W (fn251 m h) h S := by
  have ok := m_R0_ok hm.1.1
  have r := ok.2.1
  unfold fn251
  refine r_moveQ hI hm (fun m0 m1 g I _ => ?_) (fun g I => r_W_i I)
  dsimp only
  rw [if_pos rfl]
  refine r_planQ I hm fun g I P => ?_
  obtain ⟨n, rfl⟩ : ∃ k : Nat, m = k := ⟨m.toNat, by omega⟩
  have l := m_l_r ok (m := n) (by omega)
  obtain ⟨x, e⟩ := r_devl ok hm.1.2 P m1 (m_l S.w n + 1).toNat 0 q_fu 0 g_V0 (by omega) (by have := q_fu_ge; omega)
  exact ⟨x, g, e, I, r_F_r⟩
end -- [98i.dask]
