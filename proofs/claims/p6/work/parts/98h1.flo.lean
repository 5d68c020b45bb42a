/-! Part 98h1: floats that are numbers. -/
def g_V (v : Int) : Prop := q_n32 (UInt32.ofNat v.toNat) = true
theorem g_V0 : g_V 0 := by unfold g_V; decide +kernel
theorem g_Vof {x : UInt32} (h : q_n32 x = true) : g_V (Int.ofNat x.toNat) := by
  unfold g_V
  rw [show (Int.ofNat x.toNat).toNat = x.toNat from rfl, UInt32.ofNat_toNat]; exact h
theorem g_V_neg {v : Int} (h : g_V v) : g_V (q_fneg v) := by
  unfold q_fneg
  apply g_Vof
  unfold g_V at h
  generalize UInt32.ofNat v.toNat = x at h
  show q_n32 (x ^^^ 0x80000000) = true
  unfold q_n32 at h ⊢
  rw [decide_eq_true_iff, UInt32.le_iff_toNat_le, UInt32.toNat_and] at h ⊢
  rw [UInt32.toNat_xor, Nat.and_xor_distrib_right, show (0x80000000 : UInt32).toNat &&& (0x7fffffff : UInt32).toNat = 0 by decide, Nat.xor_zero]
  exact h
theorem g_V_mx {a b : Int} (ha : g_V a) (hb : g_V b) : g_V (q_fmxi a b) := by
  unfold q_fmxi
  apply g_Vof
  unfold g_V at ha hb
  generalize UInt32.ofNat a.toNat = x at ha ⊢
  generalize UInt32.ofNat b.toNat = y at hb ⊢
  have e : q_fmx x y = x ∨ q_fmx x y = y := by
    unfold q_fmx Native.java_lang_Math.nans.pick32
    split
    · exact Or.inr rfl
    · exact Or.inl rfl
    · split
      · exact Or.inr rfl
      · exact Or.inl rfl
  rcases e with e | e
  · rw [e]; exact ha
  · rw [e]; exact hb
