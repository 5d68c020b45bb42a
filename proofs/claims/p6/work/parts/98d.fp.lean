/-! Part 98d: numbers that are no NaN. -/
/-- a datum that is a number or an infinity, as rounding leaves it -/
def g_ok (f : FP.Core.Fmt) (d : FP.Core.Datum) : Prop := d ≠ .nan ∧ ∀ s c q, d = .fin s c q → c < 2 ^ f.p ∧ (c < f.tails ∨ (f.qmin ≤ q ∧ q ≤ f.qmax))
theorem g_bound {f : FP.Core.Fmt} {s : Bool} {c : Nat} {q : Int} (hc : c < 2 ^ f.p) (hq : f.qmin ≤ q) : g_ok f (FP.Core.bound f s c q) := by
  unfold FP.Core.bound
  split
  · rename_i h
    exact ⟨by simp, fun s' c' q' e => by injection e with e1 e2 e3; subst e2; subst e3; exact ⟨hc, Or.inr ⟨hq, h⟩⟩⟩
  · exact ⟨by simp, fun s' c' q' e => by cases e⟩
theorem g_rr {f : FP.Core.Fmt} (ht : f.tails < 2 ^ f.p) (h0 : 0 < f.tails) (s : Bool) (n d : Nat) (e : Int) : g_ok f (FP.Core.roundRatio f s n d e) := by
  unfold FP.Core.roundRatio
  split
  · exact ⟨by simp, fun s' c' q' e => by injection e with e1 e2 e3; subst e2; exact ⟨by omega, Or.inl h0⟩⟩
  · unfold FP.Core.roundAt FP.Core.settle
    have hq : f.qmin ≤ FP.Core.quantum f n d e := by unfold FP.Core.quantum; exact Int.le_max_left _ _
    split
    · rename_i h; exact g_bound h hq
    · exact g_bound ht (by omega)
theorem g_enc64 {d : FP.Core.Datum} (h : g_ok FP.Core.b64 d) : FP.Core.encode FP.Core.b64 d % 9223372036854775808 ≤ 9218868437227405312 ∧ FP.Core.encode FP.Core.b64 d < 18446744073709551616 := by
  have eT : FP.Core.Fmt.tails FP.Core.b64 = 4503599627370496 := by decide +kernel
  have eX : FP.Core.Fmt.exps FP.Core.b64 = 2048 := by decide +kernel
  have eP : 2 ^ FP.Core.b64.p = 9007199254740992 := by decide +kernel
  have e1 : FP.Core.Fmt.qmin FP.Core.b64 = -1074 := by decide +kernel
  have e2 : FP.Core.Fmt.qmax FP.Core.b64 = 971 := by decide +kernel
  obtain ⟨h1, h2⟩ := h
  cases d with
  | nan => exact absurd rfl h1
  | inf s =>
    unfold FP.Core.encode FP.Core.assemble
    rw [eT, eX]
    cases s <;> simp
  | fin s c q =>
    obtain ⟨k1, k2⟩ := h2 s c q rfl
    rw [eP] at k1
    rw [eT, e1, e2] at k2
    have en : FP.Core.encode FP.Core.b64 (.fin s c q) = if c < FP.Core.Fmt.tails FP.Core.b64 then FP.Core.assemble FP.Core.b64 s 0 c else FP.Core.assemble FP.Core.b64 s ((q - FP.Core.Fmt.qmin FP.Core.b64).toNat + 1) (c - FP.Core.Fmt.tails FP.Core.b64) := rfl
    rw [en, eT, e1]
    by_cases cc : c < 4503599627370496
    · rw [if_pos cc]
      unfold FP.Core.assemble
      rw [eT, eX]
      cases s <;> simp <;> omega
    · rw [if_neg cc]
      unfold FP.Core.assemble
      rw [eT, eX]
      cases s <;> simp <;> omega
theorem g_enc32 {d : FP.Core.Datum} (h : g_ok FP.Core.b32 d) : FP.Core.encode FP.Core.b32 d % 2147483648 ≤ 2139095040 ∧ FP.Core.encode FP.Core.b32 d < 4294967296 := by
  have eT : FP.Core.Fmt.tails FP.Core.b32 = 8388608 := by decide +kernel
  have eX : FP.Core.Fmt.exps FP.Core.b32 = 256 := by decide +kernel
  have eP : 2 ^ FP.Core.b32.p = 16777216 := by decide +kernel
  have e1 : FP.Core.Fmt.qmin FP.Core.b32 = -149 := by decide +kernel
  have e2 : FP.Core.Fmt.qmax FP.Core.b32 = 104 := by decide +kernel
  obtain ⟨h1, h2⟩ := h
  cases d with
  | nan => exact absurd rfl h1
  | inf s =>
    unfold FP.Core.encode FP.Core.assemble
    rw [eT, eX]
    cases s <;> simp
  | fin s c q =>
    obtain ⟨k1, k2⟩ := h2 s c q rfl
    rw [eP] at k1
    rw [eT, e1, e2] at k2
    have en : FP.Core.encode FP.Core.b32 (.fin s c q) = if c < FP.Core.Fmt.tails FP.Core.b32 then FP.Core.assemble FP.Core.b32 s 0 c else FP.Core.assemble FP.Core.b32 s ((q - FP.Core.Fmt.qmin FP.Core.b32).toNat + 1) (c - FP.Core.Fmt.tails FP.Core.b32) := rfl
    rw [en, eT, e1]
    by_cases cc : c < 8388608
    · rw [if_pos cc]
      unfold FP.Core.assemble
      rw [eT, eX]
      cases s <;> simp <;> omega
    · rw [if_neg cc]
      unfold FP.Core.assemble
      rw [eT, eX]
      cases s <;> simp <;> omega
theorem g_n64 {n : Nat} (h : n % 9223372036854775808 ≤ 9218868437227405312) (h2 : n < 18446744073709551616) : q_n64 (UInt64.ofNat n) = true := by
  unfold q_n64
  rw [decide_eq_true_iff, UInt64.le_iff_toNat_le, UInt64.toNat_and, UInt64.toNat_ofNat_of_lt' h2]
  have e : (0x7fffffffffffffff : UInt64).toNat = 2 ^ 63 - 1 := by decide
  have e2 : (0x7ff0000000000000 : UInt64).toNat = 9218868437227405312 := by decide
  rw [e, e2, Nat.and_two_pow_sub_one_eq_mod]
  exact h
theorem g_n32 {n : Nat} (h : n % 2147483648 ≤ 2139095040) (h2 : n < 4294967296) : q_n32 (UInt32.ofNat n) = true := by
  unfold q_n32
  rw [decide_eq_true_iff, UInt32.le_iff_toNat_le, UInt32.toNat_and, UInt32.toNat_ofNat_of_lt' h2]
  have e : (0x7fffffff : UInt32).toNat = 2 ^ 31 - 1 := by decide
  have e2 : (0x7f800000 : UInt32).toNat = 2139095040 := by decide
  rw [e, e2, Nat.and_two_pow_sub_one_eq_mod]
  exact h
