/-! Part 04: the pure machine: its states. A value is (kind, number): 0 an int, 1 a long, 2 a reference to the cell of that place, 3 null, 4 a float's bits, 5 a double's bits, 6 the script's int of that place, 7 the same as a long, 8 some int, 9 the script, 10 some reference. -/
abbrev q_V := Nat × Int
abbrev q_L := List (Nat × q_V)
abbrev q_I := List (Int × Int)
/-- kind (0 an object, 1 int, 2 byte, 3 long, 4 double, 5 references), class or length, fields, elements -/
abbrev q_Ce := Nat × Nat × List q_V × q_T q_V 11
abbrev q_H := Nat × q_T q_Ce 8
/-- pc, locals, stack, heap, intervals, cells, slots -/
abbrev q_C := Nat × q_L × List q_V × q_H × q_I × Nat × Nat
/-- 0 returned nothing, 1 returned the value, 2 + E threw the exception E -/
abbrev q_Lf := Nat × q_V × q_H × q_I
/-- instruction, length, two numbers, an int -/
abbrev q_E := Instr × Nat × Nat × Nat × Int
/-- code; locals, class, arguments, kind of answer; frames, locals, cells, slots; handlers (from, to, handler, exception) -/
abbrev q_MI := (Nat × (Nat → q_E)) × (Nat × Nat × Nat × Nat) × (Nat × Nat × Nat × Nat) × List (Nat × Nat × Nat × Nat)
noncomputable def q_n (d : Nat) (l r : q_T q_E d) : q_T q_E (d + 1) := (l, r)
noncomputable def q_l (i : Instr) (n x y : Nat) (v : Int) : q_T q_E 0 := (i, n, x, y, v)
noncomputable def q_e0 : q_E := (.nop, 0, 0, 0, 0)
noncomputable def q_nth {α : Type} : List α → Nat → Option α := fun l => List.rec (motive := fun _ => Nat → Option α) (fun _ => none) (fun h _ ih n => Nat.rec (motive := fun _ => Option α) (some h) (fun m _ => ih m) n) l
noncomputable def q_ieq (a b : Int) : Bool := Nat.beq (q_cmp a b) 1
noncomputable def q_ile (a b : Int) : Bool := bif Nat.beq (q_cmp a b) 2 then false else true
theorem q_and_i {a b : Bool} (h : (bif a then b else false) = true) : a = true ∧ b = true := by
  cases a
  · cases h
  · exact ⟨rfl, h⟩
theorem q_bq {a b : Nat} (h : Nat.beq a b = true) : a = b := Nat.eq_of_beq_eq_true h
theorem q_bl {a b : Nat} (h : Nat.ble a b = true) : a ≤ b := Nat.le_of_ble_eq_true h
theorem q_ieq_i {a b : Int} (h : q_ieq a b = true) : a = b := by
  rcases q_cmp_s a b with ⟨e, h1⟩ | ⟨e, h1⟩ | ⟨e, h1⟩
  · unfold q_ieq at h; rw [e] at h; cases h
  · exact h1
  · unfold q_ieq at h; rw [e] at h; cases h
