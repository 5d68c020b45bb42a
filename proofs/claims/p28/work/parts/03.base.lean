section -- [03.base]
/-! A pure machine for the claim's bytecode, run by the kernel: values are known ones, or one of the script's ints of which an interval is known. Part 03: trees, numbers. -/
def q_T (A : Type) : Nat → Type
  | 0 => A
  | d + 1 => q_T A d × q_T A d
noncomputable def q_get {A : Type} (d : Nat) : q_T A d → Nat → A :=
  Nat.rec (motive := fun d => q_T A d → Nat → A) (fun t _ => t) (fun _ ih t i => bif Nat.beq (Nat.mod i 2) 1 then ih t.2 (Nat.div i 2) else ih t.1 (Nat.div i 2)) d
noncomputable def q_set {A : Type} (d : Nat) : q_T A d → Nat → A → q_T A d :=
  Nat.rec (motive := fun d => q_T A d → Nat → A → q_T A d) (fun _ _ v => v) (fun _ ih t i v => bif Nat.beq (Nat.mod i 2) 1 then (t.1, ih t.2 (Nat.div i 2) v) else (ih t.1 (Nat.div i 2) v, t.2)) d
noncomputable def q_mk {A : Type} (v : A) (d : Nat) : q_T A d :=
  Nat.rec (motive := fun d => q_T A d) v (fun _ ih => (ih, ih)) d
theorem q_beq1 (i : Nat) : Nat.beq (Nat.mod i 2) 1 = true ∧ i % 2 = 1 ∨ Nat.beq (Nat.mod i 2) 1 = false ∧ i % 2 = 0 := by
  have h : i % 2 = 0 ∨ i % 2 = 1 := by omega
  rcases h with h | h
  · refine Or.inr ⟨?_, h⟩
    show Nat.beq (i % 2) 1 = false
    rw [h]; rfl
  · refine Or.inl ⟨?_, h⟩
    show Nat.beq (i % 2) 1 = true
    rw [h]; rfl
theorem q_get_s {A : Type} (d : Nat) (t : q_T A (d + 1)) (i : Nat) : q_get (d + 1) t i = bif Nat.beq (Nat.mod i 2) 1 then q_get d t.2 (i / 2) else q_get d t.1 (i / 2) := rfl
theorem q_set_s {A : Type} (d : Nat) (t : q_T A (d + 1)) (i : Nat) (v : A) : q_set (d + 1) t i v = bif Nat.beq (Nat.mod i 2) 1 then (t.1, q_set d t.2 (i / 2) v) else (q_set d t.1 (i / 2) v, t.2) := rfl
theorem q_gs {A : Type} : ∀ (d : Nat) (t : q_T A d) (i j : Nat) (v : A), i < 2 ^ d → j < 2 ^ d → q_get d (q_set d t i v) j = if j = i then v else q_get d t j := by
  intro d
  induction d with
  | zero =>
    intro t i j v hi hj
    have e : j = i := by simp at hi hj; omega
    rw [if_pos e]; rfl
  | succ d ih =>
    intro t i j v hi hj
    have hi2 : i / 2 < 2 ^ d := by rw [Nat.pow_succ] at hi; omega
    have hj2 : j / 2 < 2 ^ d := by rw [Nat.pow_succ] at hj; omega
    rw [q_get_s, q_get_s, q_set_s]
    rcases q_beq1 i with ⟨b1, h1⟩ | ⟨b1, h1⟩ <;> rcases q_beq1 j with ⟨b2, h2⟩ | ⟨b2, h2⟩ <;> rw [b1, b2] <;> simp only [cond_true, cond_false]
    · rw [ih _ _ _ _ hi2 hj2]
      by_cases e : j = i
      · rw [if_pos e, if_pos (by rw [e])]
      · rw [if_neg e, if_neg (by omega)]
    · rw [if_neg (by omega)]
    · rw [if_neg (by omega)]
    · rw [ih _ _ _ _ hi2 hj2]
      by_cases e : j = i
      · rw [if_pos e, if_pos (by rw [e])]
      · rw [if_neg e, if_neg (by omega)]
theorem q_gm {A : Type} (v : A) : ∀ (d i : Nat), q_get d (q_mk v d) i = v := by
  intro d
  induction d with
  | zero => intro i; rfl
  | succ d ih =>
    intro i
    rw [q_get_s]
    rcases q_beq1 i with ⟨b1, -⟩ | ⟨b1, -⟩ <;> rw [b1]
    · exact ih _
    · exact ih _
-- numbers
noncomputable def q_sl (n : Nat) : Int := bif Nat.ble n 2147483647 then Int.ofNat n else Int.negSucc (Nat.sub 4294967295 n)
noncomputable def q_w32 (z : Int) : Int := match z with
  | .ofNat n => bif Nat.ble n 2147483647 then Int.ofNat n else q_sl (Nat.mod n 4294967296)
  | .negSucc n => bif Nat.ble n 2147483647 then Int.negSucc n else q_sl (Nat.sub 4294967295 (Nat.mod n 4294967296))
noncomputable def q_sm (n : Nat) : Int := bif Nat.ble n 9223372036854775807 then Int.ofNat n else Int.negSucc (Nat.sub 18446744073709551615 n)
noncomputable def q_w64 (z : Int) : Int := match z with
  | .ofNat n => bif Nat.ble n 9223372036854775807 then Int.ofNat n else q_sm (Nat.mod n 18446744073709551616)
  | .negSucc n => bif Nat.ble n 9223372036854775807 then Int.negSucc n else q_sm (Nat.sub 18446744073709551615 (Nat.mod n 18446744073709551616))
/-- 0: less, 1: equal, 2: greater -/
noncomputable def q_cmp (a b : Int) : Nat := match a, b with
  | .ofNat x, .ofNat y => bif Nat.ble y x then (bif Nat.ble x y then 1 else 2) else 0
  | .ofNat _, .negSucc _ => 2
  | .negSucc _, .ofNat _ => 0
  | .negSucc x, .negSucc y => bif Nat.ble y x then (bif Nat.ble x y then 1 else 0) else 2
theorem q_ble {a b : Nat} : (Nat.ble a b = true ∧ a ≤ b) ∨ (Nat.ble a b = false ∧ b < a) := by
  cases h : Nat.ble a b
  · refine Or.inr ⟨rfl, ?_⟩
    have h2 : ¬ a ≤ b := fun q => by rw [Nat.ble_eq_true_of_le q] at h; cases h
    omega
  · exact Or.inl ⟨rfl, Nat.le_of_ble_eq_true h⟩
theorem q_sl_s (n : Nat) (h : n < 4294967296) : (q_sl n = (n : Int) ∧ n < 2147483648) ∨ (q_sl n = (n : Int) - 4294967296 ∧ 2147483648 ≤ n) := by
  unfold q_sl
  rcases q_ble (a := n) (b := 2147483647) with ⟨e, h1⟩ | ⟨e, h1⟩ <;> rw [e] <;> simp only [cond_true, cond_false]
  · exact Or.inl ⟨rfl, by omega⟩
  · refine Or.inr ⟨?_, by omega⟩
    show Int.negSucc (4294967295 - n) = _
    omega
theorem q_sm_s (n : Nat) (h : n < 18446744073709551616) : (q_sm n = (n : Int) ∧ n < 9223372036854775808) ∨ (q_sm n = (n : Int) - 18446744073709551616 ∧ 9223372036854775808 ≤ n) := by
  unfold q_sm
  rcases q_ble (a := n) (b := 9223372036854775807) with ⟨e, h1⟩ | ⟨e, h1⟩ <;> rw [e] <;> simp only [cond_true, cond_false]
  · exact Or.inl ⟨rfl, by omega⟩
  · refine Or.inr ⟨?_, by omega⟩
    show Int.negSucc (18446744073709551615 - n) = _
    omega
/-- in range, and the same number modulo the word -/
theorem q_w32_s (z : Int) : -2147483648 ≤ q_w32 z ∧ q_w32 z < 2147483648 ∧ ∃ k : Int, q_w32 z = z + k * 4294967296 := by
  cases z with
  | ofNat n =>
    show _ ≤ (bif Nat.ble n 2147483647 then Int.ofNat n else q_sl (n % 4294967296)) ∧ (bif Nat.ble n 2147483647 then Int.ofNat n else q_sl (n % 4294967296)) < _ ∧ ∃ k : Int, (bif Nat.ble n 2147483647 then Int.ofNat n else q_sl (n % 4294967296)) = _
    rcases q_ble (a := n) (b := 2147483647) with ⟨e, h1⟩ | ⟨e, h1⟩ <;> rw [e] <;> simp only [cond_true, cond_false]
    · exact ⟨by simp only [Int.ofNat_eq_natCast]; omega, by simp only [Int.ofNat_eq_natCast]; omega, 0, by omega⟩
    · have hm : n % 4294967296 < 4294967296 := Nat.mod_lt _ (by decide)
      rcases q_sl_s _ hm with ⟨e2, h2⟩ | ⟨e2, h2⟩ <;> rw [e2]
      · exact ⟨by omega, by omega, -((n / 4294967296 : Nat) : Int), by simp only [Int.ofNat_eq_natCast]; omega⟩
      · exact ⟨by omega, by omega, -((n / 4294967296 : Nat) : Int) - 1, by simp only [Int.ofNat_eq_natCast]; omega⟩
  | negSucc n =>
    show _ ≤ (bif Nat.ble n 2147483647 then Int.negSucc n else q_sl (4294967295 - n % 4294967296)) ∧ (bif Nat.ble n 2147483647 then Int.negSucc n else q_sl (4294967295 - n % 4294967296)) < _ ∧ ∃ k : Int, (bif Nat.ble n 2147483647 then Int.negSucc n else q_sl (4294967295 - n % 4294967296)) = _
    rcases q_ble (a := n) (b := 2147483647) with ⟨e, h1⟩ | ⟨e, h1⟩ <;> rw [e] <;> simp only [cond_true, cond_false]
    · exact ⟨by omega, by omega, 0, by omega⟩
    · have hm : n % 4294967296 < 4294967296 := Nat.mod_lt _ (by decide)
      rcases q_sl_s (4294967295 - n % 4294967296) (by omega) with ⟨e2, h2⟩ | ⟨e2, h2⟩ <;> rw [e2]
      · exact ⟨by omega, by omega, ((n / 4294967296 : Nat) : Int) + 1, by omega⟩
      · exact ⟨by omega, by omega, ((n / 4294967296 : Nat) : Int), by omega⟩
theorem q_w64_s (z : Int) : -9223372036854775808 ≤ q_w64 z ∧ q_w64 z < 9223372036854775808 ∧ ∃ k : Int, q_w64 z = z + k * 18446744073709551616 := by
  cases z with
  | ofNat n =>
    show _ ≤ (bif Nat.ble n 9223372036854775807 then Int.ofNat n else q_sm (n % 18446744073709551616)) ∧ (bif Nat.ble n 9223372036854775807 then Int.ofNat n else q_sm (n % 18446744073709551616)) < _ ∧ ∃ k : Int, (bif Nat.ble n 9223372036854775807 then Int.ofNat n else q_sm (n % 18446744073709551616)) = _
    rcases q_ble (a := n) (b := 9223372036854775807) with ⟨e, h1⟩ | ⟨e, h1⟩ <;> rw [e] <;> simp only [cond_true, cond_false]
    · exact ⟨by simp only [Int.ofNat_eq_natCast]; omega, by simp only [Int.ofNat_eq_natCast]; omega, 0, by omega⟩
    · have hm : n % 18446744073709551616 < 18446744073709551616 := Nat.mod_lt _ (by decide)
      rcases q_sm_s _ hm with ⟨e2, h2⟩ | ⟨e2, h2⟩ <;> rw [e2]
      · exact ⟨by omega, by omega, -((n / 18446744073709551616 : Nat) : Int), by simp only [Int.ofNat_eq_natCast]; omega⟩
      · exact ⟨by omega, by omega, -((n / 18446744073709551616 : Nat) : Int) - 1, by simp only [Int.ofNat_eq_natCast]; omega⟩
  | negSucc n =>
    show _ ≤ (bif Nat.ble n 9223372036854775807 then Int.negSucc n else q_sm (18446744073709551615 - n % 18446744073709551616)) ∧ (bif Nat.ble n 9223372036854775807 then Int.negSucc n else q_sm (18446744073709551615 - n % 18446744073709551616)) < _ ∧ ∃ k : Int, (bif Nat.ble n 9223372036854775807 then Int.negSucc n else q_sm (18446744073709551615 - n % 18446744073709551616)) = _
    rcases q_ble (a := n) (b := 9223372036854775807) with ⟨e, h1⟩ | ⟨e, h1⟩ <;> rw [e] <;> simp only [cond_true, cond_false]
    · exact ⟨by omega, by omega, 0, by omega⟩
    · have hm : n % 18446744073709551616 < 18446744073709551616 := Nat.mod_lt _ (by decide)
      rcases q_sm_s (18446744073709551615 - n % 18446744073709551616) (by omega) with ⟨e2, h2⟩ | ⟨e2, h2⟩ <;> rw [e2]
      · exact ⟨by omega, by omega, ((n / 18446744073709551616 : Nat) : Int) + 1, by omega⟩
      · exact ⟨by omega, by omega, ((n / 18446744073709551616 : Nat) : Int), by omega⟩
theorem q_w32_m (z : Int) : (Int32.ofInt z).toInt = q_w32 z := by
  obtain ⟨h1, h2, k, h3⟩ := q_w32_s z
  rw [Int32.toInt_ofInt]
  generalize q_w32 z = y at h1 h2 h3 ⊢
  have e : z = y + (-k) * 4294967296 := by omega
  rw [e]
  show Int.bmod (y + -k * 4294967296) (2 ^ 32) = y
  rw [show ((4294967296 : Int)) = (((2 ^ 32 : Nat)) : Int) by decide, Int.add_mul_bmod_self_right]
  exact Int.bmod_eq_of_le (by omega) (by omega)
theorem q_w64_m (z : Int) : (Int64.ofInt z).toInt = q_w64 z := by
  obtain ⟨h1, h2, k, h3⟩ := q_w64_s z
  rw [Int64.toInt_ofInt]
  generalize q_w64 z = y at h1 h2 h3 ⊢
  have e : z = y + (-k) * 18446744073709551616 := by omega
  rw [e]
  show Int.bmod (y + -k * 18446744073709551616) (2 ^ 64) = y
  rw [show ((18446744073709551616 : Int)) = (((2 ^ 64 : Nat)) : Int) by decide, Int.add_mul_bmod_self_right]
  exact Int.bmod_eq_of_le (by omega) (by omega)
theorem q_w32_id {z : Int} (h1 : -2147483648 ≤ z) (h2 : z < 2147483648) : q_w32 z = z := by
  obtain ⟨g1, g2, k, g3⟩ := q_w32_s z
  omega
theorem q_w64_id {z : Int} (h1 : -9223372036854775808 ≤ z) (h2 : z < 9223372036854775808) : q_w64 z = z := by
  obtain ⟨g1, g2, k, g3⟩ := q_w64_s z
  omega
theorem q_o32 (z : Int) : Int32.ofInt (q_w32 z) = Int32.ofInt z := by
  apply Int32.toInt_inj.mp
  obtain ⟨h1, h2, -⟩ := q_w32_s z
  rw [q_w32_m, q_w32_m, q_w32_id h1 h2]
theorem q_o64 (z : Int) : Int64.ofInt (q_w64 z) = Int64.ofInt z := by
  apply Int64.toInt_inj.mp
  obtain ⟨h1, h2, -⟩ := q_w64_s z
  rw [q_w64_m, q_w64_m, q_w64_id h1 h2]
theorem q_cmp_s (a b : Int) : (q_cmp a b = 0 ∧ a < b) ∨ (q_cmp a b = 1 ∧ a = b) ∨ (q_cmp a b = 2 ∧ b < a) := by
  cases a with
  | ofNat x =>
    cases b with
    | ofNat y =>
      show ((bif Nat.ble y x then (bif Nat.ble x y then 1 else 2) else 0) = 0 ∧ _) ∨ ((bif Nat.ble y x then (bif Nat.ble x y then 1 else 2) else 0) = 1 ∧ _) ∨ ((bif Nat.ble y x then (bif Nat.ble x y then 1 else 2) else 0) = 2 ∧ _)
      simp only [Int.ofNat_eq_natCast]
      rcases q_ble (a := y) (b := x) with ⟨e, h⟩ | ⟨e, h⟩ <;> rcases q_ble (a := x) (b := y) with ⟨e2, h2⟩ | ⟨e2, h2⟩ <;> rw [e] <;> (try rw [e2]) <;> simp only [cond_true, cond_false]
      · exact Or.inr (Or.inl ⟨trivial, by omega⟩)
      · exact Or.inr (Or.inr ⟨trivial, by omega⟩)
      · exact Or.inl ⟨trivial, by omega⟩
      · omega
    | negSucc y => exact Or.inr (Or.inr ⟨rfl, by simp only [Int.ofNat_eq_natCast]; omega⟩)
  | negSucc x =>
    cases b with
    | ofNat y => exact Or.inl ⟨rfl, by simp only [Int.ofNat_eq_natCast]; omega⟩
    | negSucc y =>
      show ((bif Nat.ble y x then (bif Nat.ble x y then 1 else 0) else 2) = 0 ∧ _) ∨ ((bif Nat.ble y x then (bif Nat.ble x y then 1 else 0) else 2) = 1 ∧ _) ∨ ((bif Nat.ble y x then (bif Nat.ble x y then 1 else 0) else 2) = 2 ∧ _)
      rcases q_ble (a := y) (b := x) with ⟨e, h⟩ | ⟨e, h⟩ <;> rcases q_ble (a := x) (b := y) with ⟨e2, h2⟩ | ⟨e2, h2⟩ <;> rw [e] <;> (try rw [e2]) <;> simp only [cond_true, cond_false]
      · exact Or.inr (Or.inl ⟨trivial, by omega⟩)
      · exact Or.inl ⟨trivial, by omega⟩
      · exact Or.inr (Or.inr ⟨trivial, by omega⟩)
      · omega
theorem q_add32 (a b : Int) : Int32.ofInt a + Int32.ofInt b = Int32.ofInt (q_w32 (a + b)) := by rw [q_o32, Int32.ofInt_add]
theorem q_sub32 (a b : Int) : Int32.ofInt a - Int32.ofInt b = Int32.ofInt (q_w32 (a - b)) := by rw [q_o32, Int32.ofInt_sub]
theorem q_mul32 (a b : Int) : Int32.ofInt a * Int32.ofInt b = Int32.ofInt (q_w32 (a * b)) := by rw [q_o32, Int32.ofInt_mul]
theorem q_add64 (a b : Int) : Int64.ofInt a + Int64.ofInt b = Int64.ofInt (q_w64 (a + b)) := by rw [q_o64, Int64.ofInt_add]
theorem q_sub64 (a b : Int) : Int64.ofInt a - Int64.ofInt b = Int64.ofInt (q_w64 (a - b)) := by rw [q_o64, Int64.ofInt_sub]
theorem q_mul64 (a b : Int) : Int64.ofInt a * Int64.ofInt b = Int64.ofInt (q_w64 (a * b)) := by rw [q_o64, Int64.ofInt_mul]
theorem q_il (a : Int) : (Int32.ofInt a).toInt64 = Int64.ofInt (q_w32 a) := by
  apply Int64.toInt_inj.mp
  obtain ⟨h1, h2, -⟩ := q_w32_s a
  rw [Int32.toInt_toInt64, q_w32_m, q_w64_m, q_w64_id (by omega) (by omega)]
theorem q_li (a : Int) : (Int64.ofInt a).toInt32 = Int32.ofInt (q_w32 a) := by
  rw [q_o32]
  apply Int32.toInt_inj.mp
  rw [Int64.toInt_toInt32, Int64.toInt_ofInt, Int32.toInt_ofInt]
  exact Int.bmod_bmod_of_dvd (by decide)
end -- [03.base]
section -- [04.types]
/-! Part 04: the pure machine: its states. A value is (kind, number): 0 an int, 1 a long, 2 a reference to the cell of that place, 3 null, 4 a float's bits, 5 a double's bits, 6 the script's int of that place, 7 the same as a long, 8 some int, 9 the script, 10 some reference. -/
abbrev q_V := Nat × Int
abbrev q_L := List (Nat × q_V)
abbrev q_I := List (Int × Int)
/-- kind (0 an object, 1 int, 2 byte, 3 long, 4 double, 5 references), class or length, fields, elements -/
abbrev q_Ce := Nat × Nat × List q_V × q_T q_V 11
abbrev q_H := Nat × q_T q_Ce 8
/-- pc, locals, stack, heap, intervals, cells, slots -/
abbrev q_C := Nat × q_L × List q_V × q_H × q_I × Nat × Nat
/-- 0 returned nothing, 1 returned the value, 2 + E threw the exception E -/
abbrev q_Lf := Nat × q_V × q_H × q_I
/-- instruction, length, two numbers, an int -/
abbrev q_E := Instr × Nat × Nat × Nat × Int
/-- code; locals, class, arguments, kind of answer; frames, locals, cells, slots; handlers (from, to, handler, exception) -/
abbrev q_MI := (Nat × (Nat → q_E)) × (Nat × Nat × Nat × Nat) × (Nat × Nat × Nat × Nat) × List (Nat × Nat × Nat × Nat)
noncomputable def q_n (d : Nat) (l r : q_T q_E d) : q_T q_E (d + 1) := (l, r)
noncomputable def q_l (i : Instr) (n x y : Nat) (v : Int) : q_T q_E 0 := (i, n, x, y, v)
noncomputable def q_e0 : q_E := (.nop, 0, 0, 0, 0)
noncomputable def q_nth {α : Type} : List α → Nat → Option α := fun l => List.rec (motive := fun _ => Nat → Option α) (fun _ => none) (fun h _ ih n => Nat.rec (motive := fun _ => Option α) (some h) (fun m _ => ih m) n) l
noncomputable def q_ieq (a b : Int) : Bool := Nat.beq (q_cmp a b) 1
noncomputable def q_ile (a b : Int) : Bool := bif Nat.beq (q_cmp a b) 2 then false else true
theorem q_and_i {a b : Bool} (h : (bif a then b else false) = true) : a = true ∧ b = true := by
  cases a
  · cases h
  · exact ⟨rfl, h⟩
theorem q_bq {a b : Nat} (h : Nat.beq a b = true) : a = b := Nat.eq_of_beq_eq_true h
theorem q_bl {a b : Nat} (h : Nat.ble a b = true) : a ≤ b := Nat.le_of_ble_eq_true h
theorem q_ieq_i {a b : Int} (h : q_ieq a b = true) : a = b := by
  rcases q_cmp_s a b with ⟨e, h1⟩ | ⟨e, h1⟩ | ⟨e, h1⟩
  · unfold q_ieq at h; rw [e] at h; cases h
  · exact h1
  · unfold q_ieq at h; rw [e] at h; cases h
end -- [04.types]
