/-! Part 09: names, links, the words of the tables that are used, each by its place. Printed by wip/tools/gen_links.py. -/
def q_on (n : Nat) : String := match n with
  | 0 => "StepperTable$Account"
  | 1 => "StepperTable$Axis"
  | 2 => "StepperTable$Bytes"
  | 3 => "StepperTable$History"
  | 4 => "StepperTable$Plan"
  | 5 => "StepperTable$Setup"
  | 6 => "StepperTable$Table"
  | 7 => "StepperTable$Targets"
  | 8 => "StepperTable"
  | 9 => "StepperTableModel"
  | _ => "StepperTableLaw"
def q_ex (n : Nat) : String := match n with
  | 0 => "java/lang/IllegalArgumentException"
  | 1 => "java/lang/IndexOutOfBoundsException"
  | 2 => "java/lang/IllegalStateException"
  | _ => "java/util/NoSuchElementException"
def q_CF0 : u_T := fun k => match k with
  | 0 => ("StepperTable$Account", "forward", "I", false)
  | 1 => ("StepperTable$Account", "backward", "I", false)
  | 2 => ("StepperTable$Account", "lost", "I", false)
  | 3 => ("StepperTable$Account", "compensations", "I", false)
  | 4 => ("StepperTable$Account", "homings", "I", false)
  | 5 => ("StepperTable$Account", "failures", "I", false)
  | _ => ("StepperTable$Account", "reversals", "I", false)
def q_CT0 : Nat → FieldType := fun k => match k with
  | 0 => .int
  | 1 => .int
  | 2 => .int
  | 3 => .int
  | 4 => .int
  | 5 => .int
  | _ => .int
def q_CF1 : u_T := fun k => match k with
  | 0 => ("StepperTable$Axis", "length", "I", false)
  | 1 => ("StepperTable$Axis", "backlash", "I", false)
  | 2 => ("StepperTable$Axis", "top", "I", false)
  | 3 => ("StepperTable$Axis", "acceleration", "I", false)
  | 4 => ("StepperTable$Axis", "switchPosition", "I", false)
  | 5 => ("StepperTable$Axis", "hysteresis", "I", false)
  | 6 => ("StepperTable$Axis", "truePosition", "I", false)
  | 7 => ("StepperTable$Axis", "slack", "I", false)
  | 8 => ("StepperTable$Axis", "direction", "I", false)
  | 9 => ("StepperTable$Axis", "stuck", "I", false)
  | 10 => ("StepperTable$Axis", "closed", "Z", false)
  | 11 => ("StepperTable$Axis", "homed", "Z", false)
  | 12 => ("StepperTable$Axis", "coordinate", "I", false)
  | 13 => ("StepperTable$Axis", "zero", "I", false)
  | _ => ("StepperTable$Axis", "account", "LStepperTable$Account;", true)
def q_CT1 : Nat → FieldType := fun k => match k with
  | 0 => .int
  | 1 => .int
  | 2 => .int
  | 3 => .int
  | 4 => .int
  | 5 => .int
  | 6 => .int
  | 7 => .int
  | 8 => .int
  | 9 => .int
  | 10 => .boolean
  | 11 => .boolean
  | 12 => .int
  | 13 => .int
  | _ => .object "StepperTable$Account"
def q_CF2 : u_T := fun k => match k with
  | 0 => ("StepperTable$Bytes", "row", "[B", true)
  | _ => ("StepperTable$Bytes", "length", "I", false)
def q_CT2 : Nat → FieldType := fun k => match k with
  | 0 => .array .byte
  | _ => .int
def q_CF3 : u_T := fun k => match k with
  | 0 => ("StepperTable$History", "ring", "[LStepperTable$Table;", true)
  | 1 => ("StepperTable$History", "size", "I", false)
  | _ => ("StepperTable$History", "next", "I", false)
def q_CT3 : Nat → FieldType := fun k => match k with
  | 0 => .array (.object "StepperTable$Table")
  | 1 => .int
  | _ => .int
def q_CF4 : u_T := fun k => match k with
  | 0 => ("StepperTable$Plan", "begins", "[I", true)
  | 1 => ("StepperTable$Plan", "distances", "[I", true)
  | 2 => ("StepperTable$Plan", "turnings", "[I", true)
  | 3 => ("StepperTable$Plan", "leads", "[I", true)
  | 4 => ("StepperTable$Plan", "cruises", "[I", true)
  | 5 => ("StepperTable$Plan", "gains", "[I", true)
  | 6 => ("StepperTable$Plan", "straights", "[I", true)
  | 7 => ("StepperTable$Plan", "compensations", "[I", true)
  | 8 => ("StepperTable$Plan", "speeds", "[I", true)
  | 9 => ("StepperTable$Plan", "size", "I", false)
  | _ => ("StepperTable$Plan", "start", "I", false)
def q_CT4 : Nat → FieldType := fun k => match k with
  | 0 => .array .int
  | 1 => .array .int
  | 2 => .array .int
  | 3 => .array .int
  | 4 => .array .int
  | 5 => .array .int
  | 6 => .array .int
  | 7 => .array .int
  | 8 => .array .int
  | 9 => .int
  | _ => .int
def q_CF5 : u_T := fun k => match k with
  | 0 => ("StepperTable$Setup", "numbers", "[I", true)
  | 1 => ("StepperTable$Setup", "begins", "[I", true)
  | 2 => ("StepperTable$Setup", "start", "I", false)
  | 3 => ("StepperTable$Setup", "seen", "I", false)
  | 4 => ("StepperTable$Setup", "code", "I", false)
  | 5 => ("StepperTable$Setup", "offset", "I", false)
  | _ => ("StepperTable$Setup", "place", "I", false)
def q_CT5 : Nat → FieldType := fun k => match k with
  | 0 => .array .int
  | 1 => .array .int
  | 2 => .int
  | 3 => .int
  | 4 => .int
  | 5 => .int
  | _ => .int
def q_CF6 : u_T := fun k => match k with
  | 0 => ("StepperTable$Table", "x", "LStepperTable$Axis;", true)
  | 1 => ("StepperTable$Table", "y", "LStepperTable$Axis;", true)
  | 2 => ("StepperTable$Table", "z", "LStepperTable$Axis;", true)
  | 3 => ("StepperTable$Table", "targets", "LStepperTable$Targets;", true)
  | 4 => ("StepperTable$Table", "start", "I", false)
  | 5 => ("StepperTable$Table", "compensation", "Z", false)
  | 6 => ("StepperTable$Table", "detection", "Z", false)
  | 7 => ("StepperTable$Table", "alarm", "I", false)
  | 8 => ("StepperTable$Table", "passed", "J", false)
  | 9 => ("StepperTable$Table", "moveStepsTime", "J", false)
  | _ => ("StepperTable$Table", "moveSteps", "J", false)
def q_CT6 : Nat → FieldType := fun k => match k with
  | 0 => .object "StepperTable$Axis"
  | 1 => .object "StepperTable$Axis"
  | 2 => .object "StepperTable$Axis"
  | 3 => .object "StepperTable$Targets"
  | 4 => .int
  | 5 => .boolean
  | 6 => .boolean
  | 7 => .int
  | 8 => .long
  | 9 => .long
  | _ => .long
def q_CF7 : u_T := fun k => match k with
  | 0 => ("StepperTable$Targets", "row", "[I", true)
  | _ => ("StepperTable$Targets", "size", "I", false)
def q_CT7 : Nat → FieldType := fun k => match k with
  | 0 => .array .int
  | _ => .int
def q_CF8 : u_T := fun k => match k with
  | 0 => ("StepperTable", "input", "LStepperTable$Bytes;", true)
  | 1 => ("StepperTable", "setup", "LStepperTable$Setup;", true)
  | 2 => ("StepperTable", "table", "LStepperTable$Table;", true)
  | 3 => ("StepperTable", "saved", "LStepperTable$Table;", true)
  | 4 => ("StepperTable", "scratch", "LStepperTable$Table;", true)
  | 5 => ("StepperTable", "history", "LStepperTable$History;", true)
  | 6 => ("StepperTable", "plan", "LStepperTable$Plan;", true)
  | 7 => ("StepperTable", "path", "LStepperTable$Targets;", true)
  | 8 => ("StepperTable", "output", "LStepperTable$Bytes;", true)
  | _ => ("StepperTable", "hasSaved", "Z", false)
def q_CT8 : Nat → FieldType := fun k => match k with
  | 0 => .object "StepperTable$Bytes"
  | 1 => .object "StepperTable$Setup"
  | 2 => .object "StepperTable$Table"
  | 3 => .object "StepperTable$Table"
  | 4 => .object "StepperTable$Table"
  | 5 => .object "StepperTable$History"
  | 6 => .object "StepperTable$Plan"
  | 7 => .object "StepperTable$Targets"
  | 8 => .object "StepperTable$Bytes"
  | _ => .boolean
def q_CF9 : u_T := fun k => match k with
  | 0 => ("StepperTableModel", "w", "[J", true)
  | 1 => ("StepperTableModel", "wKept", "[J", true)
  | 2 => ("StepperTableModel", "aside", "[J", true)
  | 3 => ("StepperTableModel", "savedRow", "[J", true)
  | 4 => ("StepperTableModel", "past", "[J", true)
  | 5 => ("StepperTableModel", "pastMany", "I", false)
  | 6 => ("StepperTableModel", "isSaved", "Z", false)
  | 7 => ("StepperTableModel", "thrown", "I", false)
  | 8 => ("StepperTableModel", "distance", "[I", true)
  | 9 => ("StepperTableModel", "lead", "[I", true)
  | 10 => ("StepperTableModel", "cruise", "[I", true)
  | 11 => ("StepperTableModel", "gain", "[I", true)
  | 12 => ("StepperTableModel", "between", "[I", true)
  | 13 => ("StepperTableModel", "input", "[I", true)
  | 14 => ("StepperTableModel", "inputMany", "I", false)
  | 15 => ("StepperTableModel", "lastError", "I", false)
  | 16 => ("StepperTableModel", "lastOffset", "I", false)
  | 17 => ("StepperTableModel", "error", "I", false)
  | 18 => ("StepperTableModel", "offset", "I", false)
  | 19 => ("StepperTableModel", "nextByte", "I", false)
  | 20 => ("StepperTableModel", "begin", "I", false)
  | 21 => ("StepperTableModel", "value", "I", false)
  | 22 => ("StepperTableModel", "token", "I", false)
  | 23 => ("StepperTableModel", "once", "I", false)
  | 24 => ("StepperTableModel", "clock", "J", false)
  | 25 => ("StepperTableModel", "facing", "[I", true)
  | 26 => ("StepperTableModel", "output", "[I", true)
  | _ => ("StepperTableModel", "outputMany", "I", false)
def q_CT9 : Nat → FieldType := fun k => match k with
  | 0 => .array .long
  | 1 => .array .long
  | 2 => .array .long
  | 3 => .array .long
  | 4 => .array .long
  | 5 => .int
  | 6 => .boolean
  | 7 => .int
  | 8 => .array .int
  | 9 => .array .int
  | 10 => .array .int
  | 11 => .array .int
  | 12 => .array .int
  | 13 => .array .int
  | 14 => .int
  | 15 => .int
  | 16 => .int
  | 17 => .int
  | 18 => .int
  | 19 => .int
  | 20 => .int
  | 21 => .int
  | 22 => .int
  | 23 => .int
  | 24 => .long
  | 25 => .array .int
  | 26 => .array .int
  | _ => .int
def q_cF (n : Nat) : u_T := match n with
  | 0 => q_CF0
  | 1 => q_CF1
  | 2 => q_CF2
  | 3 => q_CF3
  | 4 => q_CF4
  | 5 => q_CF5
  | 6 => q_CF6
  | 7 => q_CF7
  | 8 => q_CF8
  | _ => q_CF9
def q_cT (n : Nat) : Nat → FieldType := match n with
  | 0 => q_CT0
  | 1 => q_CT1
  | 2 => q_CT2
  | 3 => q_CT3
  | 4 => q_CT4
  | 5 => q_CT5
  | 6 => q_CT6
  | 7 => q_CT7
  | 8 => q_CT8
  | _ => q_CT9
def q_cN (n : Nat) : Nat := match n with
  | 0 => 7
  | 1 => 15
  | 2 => 2
  | 3 => 3
  | 4 => 11
  | 5 => 7
  | 6 => 11
  | 7 => 2
  | 8 => 10
  | _ => 28
def q_cl : List vw_C := [(q_on 0, q_CF0, 7), (q_on 1, q_CF1, 15), (q_on 2, q_CF2, 2), (q_on 3, q_CF3, 3), (q_on 4, q_CF4, 11), (q_on 5, q_CF5, 7), (q_on 6, q_CF6, 11), (q_on 7, q_CF7, 2), (q_on 8, q_CF8, 10), (q_on 9, q_CF9, 28)]
theorem q_10 {P : Nat → Prop} (h0 : P 0) (h1 : P 1) (h2 : P 2) (h3 : P 3) (h4 : P 4) (h5 : P 5) (h6 : P 6) (h7 : P 7) (h8 : P 8) (h9 : P 9) : ∀ n, n < 10 → P n := by
  intro n hn
  match n, hn with
  | 0, _ => exact h0
  | 1, _ => exact h1
  | 2, _ => exact h2
  | 3, _ => exact h3
  | 4, _ => exact h4
  | 5, _ => exact h5
  | 6, _ => exact h6
  | 7, _ => exact h7
  | 8, _ => exact h8
  | 9, _ => exact h9
  | n + 10, h => omega
theorem q_cl_g : ∀ n, n < 10 → q_cl[n]? = some (q_on n, q_cF n, q_cN n) := q_10 rfl rfl rfl rfl rfl rfl rfl rfl rfl rfl
theorem q_cT_ok : ∀ n, n < 10 → ∀ k, k < q_cN n → parseFieldDescriptor (q_cF n k).2.2.1 = some (q_cT n k) := q_10 (by decide +kernel) (by decide +kernel) (by decide +kernel) (by decide +kernel) (by decide +kernel) (by decide +kernel) (by decide +kernel) (by decide +kernel) (by decide +kernel) (by decide +kernel)
theorem q_cF_ne : ∀ n, n < 10 → ∀ a, a < q_cN n → ∀ b, b < q_cN n → a ≠ b → (q_cF n a).2.1 ≠ (q_cF n b).2.1 := q_10 (by decide +kernel) (by decide +kernel) (by decide +kernel) (by decide +kernel) (by decide +kernel) (by decide +kernel) (by decide +kernel) (by decide +kernel) (by decide +kernel) (by decide +kernel)
theorem q_cF_own : ∀ n, n < 10 → ∀ k, k < q_cN n → (q_cF n k).1 = q_on n := q_10 (by decide +kernel) (by decide +kernel) (by decide +kernel) (by decide +kernel) (by decide +kernel) (by decide +kernel) (by decide +kernel) (by decide +kernel) (by decide +kernel) (by decide +kernel)
def q_dfR (n : Nat) : List Value := match n with
  | 0 => [.int (Int32.ofInt 0), .int (Int32.ofInt 0), .int (Int32.ofInt 0), .int (Int32.ofInt 0), .int (Int32.ofInt 0), .int (Int32.ofInt 0), .int (Int32.ofInt 0)]
  | 1 => [.int (Int32.ofInt 0), .int (Int32.ofInt 0), .int (Int32.ofInt 0), .int (Int32.ofInt 0), .int (Int32.ofInt 0), .int (Int32.ofInt 0), .int (Int32.ofInt 0), .int (Int32.ofInt 0), .int (Int32.ofInt 0), .int (Int32.ofInt 0), .int (Int32.ofInt 0), .int (Int32.ofInt 0), .int (Int32.ofInt 0), .int (Int32.ofInt 0), .null]
  | 2 => [.null, .int (Int32.ofInt 0)]
  | 3 => [.null, .int (Int32.ofInt 0), .int (Int32.ofInt 0)]
  | 4 => [.null, .null, .null, .null, .null, .null, .null, .null, .null, .int (Int32.ofInt 0), .int (Int32.ofInt 0)]
  | 5 => [.null, .null, .int (Int32.ofInt 0), .int (Int32.ofInt 0), .int (Int32.ofInt 0), .int (Int32.ofInt 0), .int (Int32.ofInt 0)]
  | 6 => [.null, .null, .null, .null, .int (Int32.ofInt 0), .int (Int32.ofInt 0), .int (Int32.ofInt 0), .int (Int32.ofInt 0), .long (Int64.ofInt 0), .long (Int64.ofInt 0), .long (Int64.ofInt 0)]
  | 7 => [.null, .int (Int32.ofInt 0)]
  | 8 => [.null, .null, .null, .null, .null, .null, .null, .null, .null, .int (Int32.ofInt 0)]
  | _ => [.null, .null, .null, .null, .null, .int (Int32.ofInt 0), .int (Int32.ofInt 0), .int (Int32.ofInt 0), .null, .null, .null, .null, .null, .null, .int (Int32.ofInt 0), .int (Int32.ofInt 0), .int (Int32.ofInt 0), .int (Int32.ofInt 0), .int (Int32.ofInt 0), .int (Int32.ofInt 0), .int (Int32.ofInt 0), .int (Int32.ofInt 0), .int (Int32.ofInt 0), .int (Int32.ofInt 0), .long (Int64.ofInt 0), .null, .null, .int (Int32.ofInt 0)]
theorem q_dfR_ok : ∀ n, n < 10 → ∀ j, j < q_cN n → defaultValue (q_cT n j) = vp_V (q_dfR n) j := q_10 (by decide +kernel) (by decide +kernel) (by decide +kernel) (by decide +kernel) (by decide +kernel) (by decide +kernel) (by decide +kernel) (by decide +kernel) (by decide +kernel) (by decide +kernel)
abbrev q_RIt := MethodName × ByteArray × Nat × Option FieldType × List (Nat × Nat × Nat × Nat)
def q_RI0 : List q_RIt := [(⟨q_on 10, "account", "(LStepperTable;II[J)I"⟩, method_41_code, 5, (some .int), [(0, 10, 13, 19), (0, 10, 17, 13)]),
  (⟨q_on 10, "axis", "(LStepperTable;II[J)I"⟩, method_4_code, 5, (some .int), [(0, 10, 13, 19), (0, 10, 17, 13)]),
  (⟨q_on 10, "bestStart", "(LStepperTable;[J)I"⟩, method_39_code, 3, (some .int), [(0, 8, 11, 47)]),
  (⟨q_on 10, "bound", "(LStepperTable;IZ[J)I"⟩, method_27_code, 5, (some .int), [(0, 10, 13, 19), (0, 10, 17, 24)]),
  (⟨q_on 10, "coordinate", "(LStepperTable;I[J)I"⟩, method_5_code, 4, (some .int), [(0, 9, 12, 19), (0, 9, 15, 24)]),
  (⟨q_on 10, "count", "(LStepperTable;I[J)I"⟩, method_3_code, 4, (some .int), [(0, 9, 12, 13)]),
  (⟨q_on 10, "deviation", "(LStepperTable;I[D)I"⟩, method_19_code, 4, (some .int), [(0, 9, 12, 19)]),
  (⟨q_on 10, "dropTarget", "(LStepperTable;I[J)I"⟩, method_22_code, 4, (some .int), [(0, 9, 12, 19), (0, 9, 15, 24)]),
  (⟨q_on 10, "error", "(LStepperTable;I[J)I"⟩, method_6_code, 4, (some .int), [(0, 9, 12, 19), (0, 9, 15, 24)]),
  (⟨q_on 10, "home", "(LStepperTable;I[J)I"⟩, method_8_code, 4, (some .int), [(0, 9, 12, 19), (0, 9, 15, 24)]),
  (⟨q_on 10, "homeAll", "(LStepperTable;[J)I"⟩, method_20_code, 3, (some .int), [(0, 8, 11, 24)]),
  (⟨q_on 10, "insert", "(LStepperTable;IIII[J)I"⟩, method_21_code, 7, (some .int), [(0, 14, 17, 13), (0, 14, 21, 24)]),
  (⟨q_on 10, "jog", "(LStepperTable;II[J)I"⟩, method_9_code, 5, (some .int), [(0, 10, 13, 19), (0, 10, 17, 13), (0, 10, 21, 24)]),
  (⟨q_on 10, "lastsUntil", "(LStepperTable;I[J)I"⟩, method_29_code, 4, (some .int), [(0, 8, 11, 19)]),
  (⟨q_on 10, "lineLength", "(LStepperTable;I[D)I"⟩, method_32_code, 4, (some .int), [(0, 8, 11, 19)]),
  (⟨q_on 10, "lostShare", "(LStepperTable;I[D)I"⟩, method_42_code, 4, (some .int), [(0, 9, 12, 19)]),
  (⟨q_on 10, "meanSpeed", "(LStepperTable;I[D)I"⟩, method_33_code, 4, (some .int), [(0, 8, 11, 19)]),
  (⟨q_on 10, "move", "(LStepperTable;II[J)I"⟩, method_16_code, 5, (some .int), [(0, 10, 13, 19), (0, 10, 17, 13)]),
  (⟨q_on 10, "nearestOrder", "(LStepperTable;I[J)I"⟩, method_28_code, 4, (some .int), [(0, 9, 12, 47)]),
  (⟨q_on 10, "pointAt", "(LStepperTable;III[J)I"⟩, method_24_code, 6, (some .int), [(0, 12, 15, 19), (0, 12, 19, 13)]),
  (⟨q_on 10, "queue", "(LStepperTable;III[J)I"⟩, method_10_code, 6, (some .int), [(0, 12, 15, 13), (0, 12, 19, 24)]),
  (⟨q_on 10, "rampSteps", "(LStepperTable;IZ[J)I"⟩, method_25_code, 5, (some .int), [(0, 10, 13, 19)]),
  (⟨q_on 10, "readsClosed", "(LStepperTable;I[J)I"⟩, method_7_code, 4, (some .int), [(0, 16, 19, 19)]),
  (⟨q_on 10, "restoreState", "(LStepperTable;[J)I"⟩, method_43_code, 3, (some .int), [(0, 8, 11, 24)]),
  (⟨q_on 10, "run", "(LStepperTable;I[J)I"⟩, method_12_code, 4, (some .int), [(0, 9, 12, 13), (0, 9, 15, 47)]),
  (⟨q_on 10, "setStart", "(LStepperTable;I[J)I"⟩, method_14_code, 4, (some .int), [(0, 9, 12, 13)]),
  (⟨q_on 10, "setStuck", "(LStepperTable;II[J)I"⟩, method_13_code, 5, (some .int), [(0, 10, 13, 19), (0, 10, 17, 13)]),
  (⟨q_on 10, "slackLeft", "(LStepperTable;IZ[J)I"⟩, method_40_code, 5, (some .int), [(0, 10, 13, 19)]),
  (⟨q_on 10, "slowest", "(LStepperTable;I[J)I"⟩, method_26_code, 4, (some .int), [(0, 9, 12, 19)]),
  (⟨q_on 10, "speed", "(LStepperTable;II[J)I"⟩, method_17_code, 5, (some .int), [(0, 10, 13, 19), (0, 10, 17, 47)]),
  (⟨q_on 10, "stepsBehind", "(LStepperTable;III[J)I"⟩, method_18_code, 6, (some .int), [(0, 12, 15, 19), (0, 12, 19, 13)]),
  (⟨q_on 10, "straightTime", "(LStepperTable;III[J)I"⟩, method_36_code, 6, (some .int), [(0, 11, 14, 13), (0, 11, 18, 24)]),
  (⟨q_on 10, "swapTargets", "(LStepperTable;II[J)I"⟩, method_23_code, 5, (some .int), [(0, 10, 13, 19), (0, 10, 17, 24)]),
  (⟨q_on 10, "target", "(LStepperTable;II[J)I"⟩, method_15_code, 5, (some .int), [(0, 10, 13, 19)]),
  (⟨q_on 10, "travel", "(LStepperTable;I[J)I"⟩, method_34_code, 4, (some .int), [(0, 9, 12, 19)]),
  (⟨q_on 10, "trueBehind", "(LStepperTable;I[J)I"⟩, method_31_code, 4, (some .int), [(0, 9, 12, 19)]),
  (⟨q_on 10, "turnsAhead", "(LStepperTable;I[J)I"⟩, method_35_code, 4, (some .int), [(0, 9, 12, 19)]),
  (⟨q_on 10, "unqueue", "(LStepperTable;[J)I"⟩, method_11_code, 3, (some .int), [(0, 8, 11, 47)]),
  (⟨q_on 10, "whereAt", "(LStepperTable;II[J)I"⟩, method_30_code, 5, (some .int), [(0, 10, 13, 19), (0, 10, 17, 13), (0, 10, 21, 24)]),
  (⟨q_on 10, "wouldErr", "(LStepperTable;I[J)I"⟩, method_37_code, 4, (some .int), [(0, 9, 12, 19), (0, 9, 15, 24)])]
def q_RI1 : List q_RIt := [(⟨q_on 10, "wouldHome", "(LStepperTable;I[J)I"⟩, method_38_code, 4, (some .int), [(0, 9, 12, 19)]),
  (⟨q_on 0, "clear", "()V"⟩, prog_2_method_2_code, 1, none, []),
  (⟨q_on 0, "copyFrom", "(LStepperTable$Account;)V"⟩, prog_2_method_3_code, 2, none, []),
  (⟨q_on 0, "<init>", "()V"⟩, prog_2_method_1_code, 1, none, []),
  (⟨q_on 0, "number", "(I)I"⟩, prog_2_method_4_code, 2, (some .int), []),
  (⟨q_on 1, "builtIn", "(I)I"⟩, prog_3_method_4_code, 2, (some .int), []),
  (⟨q_on 1, "copyFrom", "(LStepperTable$Axis;)V"⟩, prog_3_method_3_code, 2, none, []),
  (⟨q_on 1, "<init>", "()V"⟩, prog_3_method_1_code, 1, none, []),
  (⟨q_on 1, "makeStep", "(I)Z"⟩, prog_3_method_10_code, 3, (some .boolean), []),
  (⟨q_on 1, "property", "(I)I"⟩, prog_3_method_5_code, 2, (some .int), []),
  (⟨q_on 1, "pushBackward", "()Z"⟩, prog_3_method_12_code, 1, (some .boolean), []),
  (⟨q_on 1, "pushForward", "()Z"⟩, prog_3_method_11_code, 1, (some .boolean), []),
  (⟨q_on 1, "reaches", "(I)Z"⟩, prog_3_method_7_code, 2, (some .boolean), []),
  (⟨q_on 1, "readsShut", "()Z"⟩, prog_3_method_8_code, 1, (some .boolean), []),
  (⟨q_on 1, "seek", "(Z)I"⟩, prog_3_method_13_code, 4, (some .int), []),
  (⟨q_on 1, "setUp", "(LStepperTable$Setup;I)V"⟩, prog_3_method_2_code, 3, none, []),
  (⟨q_on 1, "stepsToMove", "(Z)I"⟩, prog_3_method_15_code, 2, (some .int), []),
  (⟨q_on 1, "zeroHere", "()V"⟩, prog_3_method_14_code, 1, none, []),
  (⟨q_on 2, "addByte", "(I)V"⟩, prog_4_method_2_code, 2, none, []),
  (⟨q_on 2, "addWord", "(I)V"⟩, prog_4_method_3_code, 2, none, []),
  (⟨q_on 2, "byteAt", "(I)I"⟩, prog_4_method_5_code, 2, (some .int), []),
  (⟨q_on 2, "<init>", "()V"⟩, prog_4_method_1_code, 1, none, []),
  (⟨q_on 3, "clear", "()V"⟩, prog_5_method_2_code, 1, none, []),
  (⟨q_on 3, "<init>", "()V"⟩, prog_5_method_1_code, 2, none, []),
  (⟨q_on 3, "remember", "(LStepperTable$Table;)V"⟩, prog_5_method_3_code, 3, none, []),
  (⟨q_on 3, "slot", "(I)LStepperTable$Table;"⟩, prog_5_method_5_code, 2, (some (.object "StepperTable$Table")), []),
  (⟨q_on 4, "<init>", "()V"⟩, prog_6_method_1_code, 1, none, []),
  (⟨q_on 4, "make", "(LStepperTable$Table;LStepperTable$Targets;I)V"⟩, prog_6_method_2_code, 5, none, []),
  (⟨q_on 4, "measure", "(LStepperTable$Axis;LStepperTable$Targets;I)V"⟩, prog_6_method_3_code, 10, none, []),
  (⟨q_on 4, "smooth", "()V"⟩, prog_6_method_8_code, 3, none, []),
  (⟨q_on 4, "straightCount", "()I"⟩, prog_6_method_23_code, 3, (some .int), []),
  (⟨q_on 4, "timeUntil", "(I)J"⟩, prog_6_method_32_code, 5, (some .long), []),
  (⟨q_on 4, "wholeTime", "()J"⟩, prog_6_method_33_code, 1, (some .long), []),
  (⟨q_on 5, "findToken", "(LStepperTable$Bytes;)Z"⟩, prog_7_method_6_code, 2, (some .boolean), []),
  (⟨q_on 5, "forget", "()V"⟩, prog_7_method_5_code, 2, none, []),
  (⟨q_on 5, "hasSeen", "(I)Z"⟩, prog_7_method_3_code, 2, (some .boolean), []),
  (⟨q_on 5, "<init>", "()V"⟩, prog_7_method_1_code, 1, none, []),
  (⟨q_on 5, "keep", "(III)V"⟩, prog_7_method_13_code, 4, none, []),
  (⟨q_on 5, "number", "(II)I"⟩, prog_7_method_2_code, 3, (some .int), []),
  (⟨q_on 5, "parse", "(LStepperTable$Bytes;)V"⟩, prog_7_method_4_code, 3, none, [])]
def q_RI2 : List q_RIt := [(⟨q_on 6, "axisAt", "(I)LStepperTable$Axis;"⟩, prog_8_method_4_code, 2, (some (.object "StepperTable$Axis")), []),
  (⟨q_on 6, "copyFrom", "(LStepperTable$Table;)V"⟩, prog_8_method_3_code, 2, none, []),
  (⟨q_on 6, "homeAxis", "(I)I"⟩, prog_8_method_13_code, 5, (some .int), []),
  (⟨q_on 6, "homedAxes", "()I"⟩, prog_8_method_5_code, 1, (some .int), []),
  (⟨q_on 6, "<init>", "()V"⟩, prog_8_method_1_code, 1, none, []),
  (⟨q_on 6, "jogAxis", "(II)V"⟩, prog_8_method_15_code, 6, none, []),
  (⟨q_on 6, "lostSteps", "()I"⟩, prog_8_method_6_code, 1, (some .int), []),
  (⟨q_on 6, "makeMoves", "(LStepperTable$Plan;I)I"⟩, prog_8_method_16_code, 4, (some .int), []),
  (⟨q_on 6, "setUp", "(LStepperTable$Setup;)V"⟩, prog_8_method_2_code, 2, none, []),
  (⟨q_on 6, "slowStepTime", "()I"⟩, prog_8_method_11_code, 1, (some .int), []),
  (⟨q_on 6, "stopWith", "(I)V"⟩, prog_8_method_12_code, 2, none, []),
  (⟨q_on 7, "clear", "()V"⟩, prog_9_method_2_code, 1, none, []),
  (⟨q_on 7, "copyFrom", "(LStepperTable$Targets;)V"⟩, prog_9_method_3_code, 3, none, []),
  (⟨q_on 7, "<init>", "()V"⟩, prog_9_method_1_code, 1, none, []),
  (⟨q_on 7, "nearestTo", "(IIII)I"⟩, prog_9_method_11_code, 11, (some .int), []),
  (⟨q_on 7, "removeFirst", "(I)V"⟩, prog_9_method_8_code, 3, none, []),
  (⟨q_on 8, "account", "(II)I"⟩, prog_1_method_56_code, 3, (some .int), []),
  (⟨q_on 8, "appendInput", "(IIIII)I"⟩, prog_1_method_2_code, 6, (some .int), []),
  (⟨q_on 8, "axis", "(II)I"⟩, prog_1_method_8_code, 4, (some .int), []),
  (⟨q_on 8, "bestFirst", "()I"⟩, prog_1_method_53_code, 7, (some .int), []),
  (⟨q_on 8, "bestStart", "()I"⟩, prog_1_method_54_code, 7, (some .int), []),
  (⟨q_on 8, "bound", "(IZ)I"⟩, prog_1_method_37_code, 6, (some .int), []),
  (⟨q_on 8, "checkAllHomed", "()V"⟩, prog_1_method_67_code, 1, none, []),
  (⟨q_on 8, "checkAxis", "(I)V"⟩, prog_1_method_64_code, 2, none, []),
  (⟨q_on 8, "checkHomed", "(I)V"⟩, prog_1_method_66_code, 2, none, []),
  (⟨q_on 8, "checkMove", "(I)V"⟩, prog_1_method_65_code, 2, none, []),
  (⟨q_on 8, "checkNoAlarm", "()V"⟩, prog_1_method_68_code, 1, none, []),
  (⟨q_on 8, "checkPoint", "(III)V"⟩, prog_1_method_70_code, 4, none, []),
  (⟨q_on 8, "checkQueueEmpty", "()V"⟩, prog_1_method_69_code, 1, none, []),
  (⟨q_on 8, "checkRoom", "()V"⟩, prog_1_method_71_code, 1, none, []),
  (⟨q_on 8, "coordinate", "(I)I"⟩, prog_1_method_9_code, 2, (some .int), []),
  (⟨q_on 8, "count", "(I)I"⟩, prog_1_method_7_code, 2, (some .int), []),
  (⟨q_on 8, "deviation", "(I)F"⟩, prog_1_method_32_code, 2, (some .float), []),
  (⟨q_on 8, "dropTarget", "(I)I"⟩, prog_1_method_26_code, 2, (some .int), []),
  (⟨q_on 8, "enter", "([III)V"⟩, prog_1_method_77_code, 3, none, []),
  (⟨q_on 8, "entry", "([II)I"⟩, prog_1_method_76_code, 2, (some .int), []),
  (⟨q_on 8, "error", "(I)I"⟩, prog_1_method_10_code, 2, (some .int), []),
  (⟨q_on 8, "errorCode", "()I"⟩, prog_1_method_5_code, 1, (some .int), []),
  (⟨q_on 8, "errorOffset", "()I"⟩, prog_1_method_6_code, 1, (some .int), []),
  (⟨q_on 8, "forecast", "()LStepperTable$Table;"⟩, prog_1_method_75_code, 1, (some (.object "StepperTable$Table")), [])]
def q_RI3 : List q_RIt := [(⟨q_on 8, "home", "(I)I"⟩, prog_1_method_13_code, 2, (some .int), []),
  (⟨q_on 8, "homeAll", "()I"⟩, prog_1_method_23_code, 4, (some .int), []),
  (⟨q_on 8, "<init>", "()V"⟩, prog_1_method_1_code, 1, none, []),
  (⟨q_on 8, "insert", "(IIII)I"⟩, prog_1_method_25_code, 5, (some .int), []),
  (⟨q_on 8, "jog", "(II)I"⟩, prog_1_method_14_code, 3, (some .int), []),
  (⟨q_on 8, "lastsUntil", "(I)J"⟩, prog_1_method_45_code, 2, (some .long), []),
  (⟨q_on 8, "lineLength", "(I)D"⟩, prog_1_method_40_code, 2, (some .double), []),
  (⟨q_on 8, "loadTable", "()I"⟩, prog_1_method_4_code, 1, (some .int), []),
  (⟨q_on 8, "lostShare", "(I)F"⟩, prog_1_method_58_code, 4, (some .float), []),
  (⟨q_on 8, "meanDuration", "()D"⟩, prog_1_method_57_code, 1, (some .double), []),
  (⟨q_on 8, "meanSpeed", "(I)D"⟩, prog_1_method_42_code, 5, (some .double), []),
  (⟨q_on 8, "move", "(II)I"⟩, prog_1_method_29_code, 3, (some .int), []),
  (⟨q_on 8, "nearest", "(III)I"⟩, prog_1_method_38_code, 4, (some .int), []),
  (⟨q_on 8, "nearestOrder", "(I)I"⟩, prog_1_method_39_code, 5, (some .int), []),
  (⟨q_on 8, "outputByte", "(I)I"⟩, prog_1_method_60_code, 2, (some .int), []),
  (⟨q_on 8, "planned", "()LStepperTable$Plan;"⟩, prog_1_method_74_code, 1, (some (.object "StepperTable$Plan")), []),
  (⟨q_on 8, "pointAt", "(III)I"⟩, prog_1_method_33_code, 5, (some .int), []),
  (⟨q_on 8, "printQueue", "()I"⟩, prog_1_method_59_code, 3, (some .int), []),
  (⟨q_on 8, "queue", "(III)I"⟩, prog_1_method_15_code, 4, (some .int), []),
  (⟨q_on 8, "queueLength", "()D"⟩, prog_1_method_41_code, 5, (some .double), []),
  (⟨q_on 8, "queueTime", "()J"⟩, prog_1_method_48_code, 1, (some .long), []),
  (⟨q_on 8, "quotient", "(II)I"⟩, prog_1_method_78_code, 2, (some .int), []),
  (⟨q_on 8, "rampSteps", "(IZ)I"⟩, prog_1_method_34_code, 3, (some .int), []),
  (⟨q_on 8, "readsClosed", "(I)Z"⟩, prog_1_method_11_code, 2, (some .boolean), []),
  (⟨q_on 8, "reset", "()I"⟩, prog_1_method_18_code, 2, (some .int), []),
  (⟨q_on 8, "restoreState", "()I"⟩, prog_1_method_63_code, 1, (some .int), []),
  (⟨q_on 8, "run", "(I)I"⟩, prog_1_method_17_code, 2, (some .int), []),
  (⟨q_on 8, "runAll", "()I"⟩, prog_1_method_24_code, 1, (some .int), []),
  (⟨q_on 8, "saveState", "()I"⟩, prog_1_method_62_code, 1, (some .int), []),
  (⟨q_on 8, "setCompensation", "(Z)Z"⟩, prog_1_method_19_code, 3, (some .boolean), []),
  (⟨q_on 8, "setDetection", "(Z)Z"⟩, prog_1_method_20_code, 3, (some .boolean), []),
  (⟨q_on 8, "setStart", "(I)I"⟩, prog_1_method_22_code, 3, (some .int), []),
  (⟨q_on 8, "setStuck", "(II)I"⟩, prog_1_method_21_code, 5, (some .int), []),
  (⟨q_on 8, "slackLeft", "(IZ)I"⟩, prog_1_method_55_code, 3, (some .int), []),
  (⟨q_on 8, "slowest", "(I)I"⟩, prog_1_method_35_code, 2, (some .int), []),
  (⟨q_on 8, "speed", "(II)I"⟩, prog_1_method_30_code, 4, (some .int), []),
  (⟨q_on 8, "stepsBehind", "(III)I"⟩, prog_1_method_31_code, 5, (some .int), []),
  (⟨q_on 8, "straightPairs", "()I"⟩, prog_1_method_36_code, 1, (some .int), []),
  (⟨q_on 8, "straightTime", "(III)J"⟩, prog_1_method_49_code, 4, (some .long), []),
  (⟨q_on 8, "swapTargets", "(II)I"⟩, prog_1_method_27_code, 3, (some .int), [])]
def q_RI4 : List q_RIt := [(⟨q_on 8, "target", "(II)I"⟩, prog_1_method_28_code, 3, (some .int), []),
  (⟨q_on 8, "time", "()J"⟩, prog_1_method_12_code, 1, (some .long), []),
  (⟨q_on 8, "travel", "(I)I"⟩, prog_1_method_43_code, 5, (some .int), []),
  (⟨q_on 8, "trueBehind", "(I)I"⟩, prog_1_method_47_code, 2, (some .int), []),
  (⟨q_on 8, "truncateInput", "(I)Z"⟩, prog_1_method_3_code, 2, (some .boolean), []),
  (⟨q_on 8, "turnsAhead", "(I)I"⟩, prog_1_method_44_code, 5, (some .int), []),
  (⟨q_on 8, "undo", "()I"⟩, prog_1_method_61_code, 1, (some .int), []),
  (⟨q_on 8, "unqueue", "()I"⟩, prog_1_method_16_code, 1, (some .int), []),
  (⟨q_on 8, "whereAt", "(II)I"⟩, prog_1_method_46_code, 10, (some .int), []),
  (⟨q_on 8, "wouldErr", "(I)I"⟩, prog_1_method_51_code, 2, (some .int), []),
  (⟨q_on 8, "wouldHome", "(I)I"⟩, prog_1_method_52_code, 2, (some .int), []),
  (⟨q_on 8, "wouldLose", "()I"⟩, prog_1_method_50_code, 2, (some .int), []),
  (⟨q_on 9, "account", "(II)I"⟩, prog_11_method_126_code, 3, (some .int), []),
  (⟨q_on 9, "advanceToken", "()V"⟩, prog_11_method_35_code, 2, none, []),
  (⟨q_on 9, "amount", "(I)I"⟩, prog_11_method_10_code, 1, (some .int), []),
  (⟨q_on 9, "appendInput", "(IIIII)I"⟩, prog_11_method_32_code, 6, (some .int), []),
  (⟨q_on 9, "appendWord", "(I)V"⟩, prog_11_method_31_code, 3, none, []),
  (⟨q_on 9, "axis", "(II)I"⟩, prog_11_method_51_code, 3, (some .int), []),
  (⟨q_on 9, "begins", "()V"⟩, prog_11_method_107_code, 1, none, []),
  (⟨q_on 9, "bestFirst", "()I"⟩, prog_11_method_123_code, 7, (some .int), []),
  (⟨q_on 9, "bestStart", "()I"⟩, prog_11_method_124_code, 7, (some .int), []),
  (⟨q_on 9, "bound", "(IZ)I"⟩, prog_11_method_95_code, 5, (some .int), []),
  (⟨q_on 9, "byteAt", "(I)I"⟩, prog_11_method_34_code, 2, (some .int), []),
  (⟨q_on 9, "clear", "()V"⟩, prog_11_method_7_code, 2, none, []),
  (⟨q_on 9, "closes", "()V"⟩, prog_11_method_8_code, 2, none, []),
  (⟨q_on 9, "coordinate", "(I)I"⟩, prog_11_method_52_code, 2, (some .int), []),
  (⟨q_on 9, "copies", "([JI[JII)V"⟩, prog_11_method_5_code, 6, none, []),
  (⟨q_on 9, "count", "(I)I"⟩, prog_11_method_48_code, 2, (some .int), []),
  (⟨q_on 9, "deviation", "(I)F"⟩, prog_11_method_90_code, 6, (some .float), []),
  (⟨q_on 9, "dropTarget", "(I)I"⟩, prog_11_method_70_code, 3, (some .int), []),
  (⟨q_on 9, "ends", "()V"⟩, prog_11_method_108_code, 1, none, []),
  (⟨q_on 9, "error", "(I)I"⟩, prog_11_method_54_code, 2, (some .int), []),
  (⟨q_on 9, "errorCode", "()I"⟩, prog_11_method_46_code, 1, (some .int), []),
  (⟨q_on 9, "errorOffset", "()I"⟩, prog_11_method_47_code, 1, (some .int), []),
  (⟨q_on 9, "fails", "(ZI)Z"⟩, prog_11_method_4_code, 3, (some .boolean), []),
  (⟨q_on 9, "home", "(I)I"⟩, prog_11_method_58_code, 2, (some .int), []),
  (⟨q_on 9, "homeAll", "()I"⟩, prog_11_method_59_code, 4, (some .int), []),
  (⟨q_on 9, "homedMany", "()I"⟩, prog_11_method_17_code, 3, (some .int), []),
  (⟨q_on 9, "homes", "(I)I"⟩, prog_11_method_16_code, 4, (some .int), []),
  (⟨q_on 9, "inRange", "(JJJ)Z"⟩, prog_11_method_3_code, 6, (some .boolean), [])]
def q_RI5 : List q_RIt := [(⟨q_on 9, "<init>", "()V"⟩, prog_11_method_1_code, 1, none, []),
  (⟨q_on 9, "insert", "(IIII)I"⟩, prog_11_method_67_code, 5, (some .int), []),
  (⟨q_on 9, "isBusy", "()Z"⟩, prog_11_method_57_code, 1, (some .boolean), []),
  (⟨q_on 9, "isPoint", "(III)Z"⟩, prog_11_method_61_code, 4, (some .boolean), []),
  (⟨q_on 9, "jog", "(II)I"⟩, prog_11_method_60_code, 5, (some .int), []),
  (⟨q_on 9, "lastsUntil", "(I)J"⟩, prog_11_method_111_code, 2, (some .long), []),
  (⟨q_on 9, "laysPlan", "()V"⟩, prog_11_method_21_code, 3, none, []),
  (⟨q_on 9, "lineLength", "(I)D"⟩, prog_11_method_104_code, 2, (some .double), []),
  (⟨q_on 9, "loadTable", "()I"⟩, prog_11_method_45_code, 2, (some .int), []),
  (⟨q_on 9, "lostMany", "()I"⟩, prog_11_method_117_code, 1, (some .int), []),
  (⟨q_on 9, "lostShare", "(I)F"⟩, prog_11_method_128_code, 3, (some .float), []),
  (⟨q_on 9, "makes", "(I)I"⟩, prog_11_method_30_code, 4, (some .int), []),
  (⟨q_on 9, "mayQueue", "()Z"⟩, prog_11_method_62_code, 1, (some .boolean), []),
  (⟨q_on 9, "meanDuration", "()D"⟩, prog_11_method_127_code, 1, (some .double), []),
  (⟨q_on 9, "meanSpeed", "(I)D"⟩, prog_11_method_106_code, 5, (some .double), []),
  (⟨q_on 9, "move", "(II)I"⟩, prog_11_method_85_code, 3, (some .int), []),
  (⟨q_on 9, "nearest", "(III)I"⟩, prog_11_method_98_code, 4, (some .int), []),
  (⟨q_on 9, "nearestOf", "(JJJI)I"⟩, prog_11_method_97_code, 15, (some .int), []),
  (⟨q_on 9, "nearestOrder", "(I)I"⟩, prog_11_method_99_code, 5, (some .int), []),
  (⟨q_on 9, "noAxis", "(I)Z"⟩, prog_11_method_49_code, 2, (some .boolean), []),
  (⟨q_on 9, "noMove", "(I)Z"⟩, prog_11_method_69_code, 2, (some .boolean), []),
  (⟨q_on 9, "noPart", "(II)Z"⟩, prog_11_method_81_code, 3, (some .boolean), []),
  (⟨q_on 9, "noSteps", "(III)Z"⟩, prog_11_method_87_code, 4, (some .boolean), []),
  (⟨q_on 9, "notHomed", "(II)Z"⟩, prog_11_method_50_code, 3, (some .boolean), []),
  (⟨q_on 9, "of", "(I)I"⟩, prog_11_method_6_code, 2, (some .int), []),
  (⟨q_on 9, "outputByte", "(I)I"⟩, prog_11_method_132_code, 2, (some .int), []),
  (⟨q_on 9, "pointAt", "(III)I"⟩, prog_11_method_89_code, 4, (some .int), []),
  (⟨q_on 9, "printQueue", "()I"⟩, prog_11_method_131_code, 3, (some .int), []),
  (⟨q_on 9, "queue", "(III)I"⟩, prog_11_method_66_code, 4, (some .int), []),
  (⟨q_on 9, "queueLength", "()D"⟩, prog_11_method_105_code, 4, (some .double), []),
  (⟨q_on 9, "queueTime", "()J"⟩, prog_11_method_112_code, 1, (some .long), []),
  (⟨q_on 9, "queued", "(IIII)I"⟩, prog_11_method_65_code, 6, (some .int), []),
  (⟨q_on 9, "rampSteps", "(IZ)I"⟩, prog_11_method_91_code, 6, (some .int), []),
  (⟨q_on 9, "readText", "()Z"⟩, prog_11_method_44_code, 1, (some .boolean), []),
  (⟨q_on 9, "reads", "(I)Z"⟩, prog_11_method_13_code, 2, (some .boolean), []),
  (⟨q_on 9, "readsClosed", "(I)Z"⟩, prog_11_method_55_code, 2, (some .boolean), []),
  (⟨q_on 9, "remembers", "()V"⟩, prog_11_method_9_code, 1, none, []),
  (⟨q_on 9, "reset", "()I"⟩, prog_11_method_75_code, 2, (some .int), []),
  (⟨q_on 9, "restoreState", "()I"⟩, prog_11_method_135_code, 1, (some .int), []),
  (⟨q_on 9, "run", "(I)I"⟩, prog_11_method_73_code, 2, (some .int), [])]
def q_RI6 : List q_RIt := [(⟨q_on 9, "runAll", "()I"⟩, prog_11_method_74_code, 1, (some .int), []),
  (⟨q_on 9, "saveState", "()I"⟩, prog_11_method_134_code, 1, (some .int), []),
  (⟨q_on 9, "seeks", "(IZIJ)I"⟩, prog_11_method_15_code, 9, (some .int), []),
  (⟨q_on 9, "setCompensation", "(Z)Z"⟩, prog_11_method_77_code, 2, (some .boolean), []),
  (⟨q_on 9, "setDetection", "(Z)Z"⟩, prog_11_method_78_code, 2, (some .boolean), []),
  (⟨q_on 9, "setStart", "(I)I"⟩, prog_11_method_80_code, 3, (some .int), []),
  (⟨q_on 9, "setStuck", "(II)I"⟩, prog_11_method_79_code, 4, (some .int), []),
  (⟨q_on 9, "sets", "(IZ)Z"⟩, prog_11_method_76_code, 4, (some .boolean), []),
  (⟨q_on 9, "signOf", "(I)I"⟩, prog_11_method_11_code, 1, (some .int), []),
  (⟨q_on 9, "slackLeft", "(IZ)I"⟩, prog_11_method_125_code, 3, (some .int), []),
  (⟨q_on 9, "slowTime", "()J"⟩, prog_11_method_14_code, 1, (some .long), []),
  (⟨q_on 9, "slowest", "(I)I"⟩, prog_11_method_92_code, 3, (some .int), []),
  (⟨q_on 9, "speed", "(II)I"⟩, prog_11_method_86_code, 3, (some .int), []),
  (⟨q_on 9, "steps", "(II)Z"⟩, prog_11_method_12_code, 7, (some .boolean), []),
  (⟨q_on 9, "stepsBehind", "(III)I"⟩, prog_11_method_88_code, 4, (some .int), []),
  (⟨q_on 9, "stops", "()V"⟩, prog_11_method_29_code, 2, none, []),
  (⟨q_on 9, "straightMany", "()I"⟩, prog_11_method_93_code, 3, (some .int), []),
  (⟨q_on 9, "straightPairs", "()I"⟩, prog_11_method_94_code, 1, (some .int), []),
  (⟨q_on 9, "straightTime", "(III)J"⟩, prog_11_method_116_code, 6, (some .long), []),
  (⟨q_on 9, "swapTargets", "(II)I"⟩, prog_11_method_72_code, 4, (some .int), []),
  (⟨q_on 9, "target", "(II)I"⟩, prog_11_method_82_code, 3, (some .int), []),
  (⟨q_on 9, "thoughtTime", "(I)J"⟩, prog_11_method_109_code, 5, (some .long), []),
  (⟨q_on 9, "thrown", "()I"⟩, prog_11_method_2_code, 1, (some .int), []),
  (⟨q_on 9, "time", "()J"⟩, prog_11_method_56_code, 1, (some .long), []),
  (⟨q_on 9, "timeOf", "(I)J"⟩, prog_11_method_110_code, 4, (some .long), []),
  (⟨q_on 9, "travel", "(I)I"⟩, prog_11_method_100_code, 4, (some .int), []),
  (⟨q_on 9, "trueBehind", "(I)I"⟩, prog_11_method_115_code, 5, (some .int), []),
  (⟨q_on 9, "truncateInput", "(I)Z"⟩, prog_11_method_33_code, 2, (some .boolean), []),
  (⟨q_on 9, "turnsAhead", "(I)I"⟩, prog_11_method_101_code, 6, (some .int), []),
  (⟨q_on 9, "undo", "()I"⟩, prog_11_method_133_code, 1, (some .int), []),
  (⟨q_on 9, "unqueue", "()I"⟩, prog_11_method_68_code, 1, (some .int), []),
  (⟨q_on 9, "whereAt", "(II)I"⟩, prog_11_method_114_code, 6, (some .int), []),
  (⟨q_on 9, "wouldErr", "(I)I"⟩, prog_11_method_119_code, 5, (some .int), []),
  (⟨q_on 9, "wouldHome", "(I)I"⟩, prog_11_method_120_code, 3, (some .int), []),
  (⟨q_on 9, "wouldLose", "()I"⟩, prog_11_method_118_code, 5, (some .int), []),
  (⟨q_on 9, "write", "(I)V"⟩, prog_11_method_129_code, 2, none, []),
  (⟨q_on 10, "law", "([I)Z"⟩, code, 10, (some .boolean), [])]
def q_RI : List q_RIt := q_RI0 ++ (q_RI1 ++ (q_RI2 ++ (q_RI3 ++ (q_RI4 ++ (q_RI5 ++ (q_RI6))))))
def q_ri (i : Nat) : q_RIt := (q_RI[i]?).getD (⟨"", "", ""⟩, .empty, 0, none, [])
def q_y (i : Nat) : MethodName := (q_ri i).1
def q_bc (i : Nat) : ByteArray := (q_ri i).2.1
def q_mL (i : Nat) : Nat := (q_ri i).2.2.1
def q_rt (i : Nat) : Option FieldType := (q_ri i).2.2.2.1
def q_hh (i : Nat) : List (Nat × Nat × Nat × Nat) := (q_ri i).2.2.2.2
def q_cw (i : Nat) : Cond := match q_hh i with
  | [] => .code (q_y i) (q_bc i) (q_mL i) (q_rt i)
  | h :: t => .codeWith (q_y i) (q_bc i) (q_mL i) (q_rt i) (h :: t)
def q_FL : List (Nat × Nat × Nat × Nat) := [(0, 7, 0, 0), (0, 13, 0, 1), (0, 16, 0, 2), (0, 19, 0, 3), (0, 22, 0, 4), (0, 25, 0, 5), (0, 28, 0, 6), (1, 9, 1, 0), (1, 15, 1, 1), (1, 18, 1, 2), (1, 21, 1, 3), (1, 24, 1, 4), (1, 27, 1, 5), (1, 30, 1, 8), (1, 33, 1, 9), (1, 36, 1, 10), (1, 43, 1, 14), (1, 53, 5, 1), (1, 61, 1, 6), (1, 64, 1, 7), (1, 67, 1, 11), (1, 70, 1, 12), (1, 73, 1, 13), (1, 83, 0, 0), (1, 86, 0, 1), (1, 89, 0, 2), (2, 9, 2, 0), (2, 15, 2, 1), (3, 11, 3, 0), (3, 18, 3, 1), (3, 22, 3, 2), (4, 9, 4, 0), (4, 15, 4, 1), (4, 18, 4, 2), (4, 21, 4, 3), (4, 24, 4, 4), (4, 27, 4, 5), (4, 30, 4, 6), (4, 33, 4, 7), (4, 36, 4, 8), (4, 39, 7, 1), (4, 45, 4, 9), (4, 46, 4, 10), (4, 84, 1, 12), (4, 89, 1, 8), (5, 11, 5, 0), (5, 15, 5, 1), (5, 18, 5, 4), (5, 22, 5, 5), (5, 29, 5, 3), (5, 51, 5, 2), (5, 54, 5, 6), (5, 57, 2, 1), (6, 12, 6, 0), (6, 18, 6, 1), (6, 21, 6, 2), (6, 27, 6, 3), (6, 31, 6, 4), (6, 42, 5, 2), (6, 49, 6, 5), (6, 53, 6, 6), (6, 56, 6, 7), (6, 59, 6, 8), (6, 63, 6, 9), (6, 66, 6, 10), (6, 76, 1, 11), (6, 79, 1, 14), (6, 83, 0, 2), (6, 139, 0, 4), (7, 9, 7, 0), (7, 15, 7, 1), (8, 10, 8, 0), (8, 19, 8, 1), (8, 26, 8, 2), (8, 30, 8, 3), (8, 33, 8, 4), (8, 39, 8, 5), (8, 46, 8, 6), (8, 53, 8, 7), (8, 57, 8, 8), (8, 60, 2, 1), (8, 72, 5, 4), (8, 82, 8, 9), (8, 86, 6, 0), (8, 90, 1, 0), (8, 93, 6, 1), (8, 96, 6, 2), (8, 99, 5, 5), (8, 102, 6, 4), (8, 105, 6, 5), (8, 108, 6, 6), (8, 111, 6, 7), (8, 114, 6, 3), (8, 117, 7, 1), (8, 124, 3, 1), (8, 149, 1, 12), (8, 159, 6, 8), (8, 182, 1, 6), (8, 228, 1, 9), (8, 298, 4, 9), (8, 368, 1, 14), (8, 377, 6, 10), (8, 380, 6, 9), (8, 383, 0, 0), (8, 386, 0, 1), (8, 389, 0, 2), (8, 416, 1, 11), (9, 7, 9, 0), (9, 13, 9, 1), (9, 16, 9, 2), (9, 19, 9, 3), (9, 22, 9, 4), (9, 25, 9, 8), (9, 29, 9, 9), (9, 32, 9, 10), (9, 35, 9, 11), (9, 38, 9, 12), (9, 41, 9, 13), (9, 44, 9, 16), (9, 48, 9, 25), (9, 51, 9, 26), (9, 60, 9, 7), (9, 73, 9, 5), (9, 157, 9, 14), (9, 167, 9, 19), (9, 173, 9, 20), (9, 176, 9, 21), (9, 179, 9, 22), (9, 190, 9, 17), (9, 193, 9, 18), (9, 215, 9, 23), (9, 264, 9, 15), (9, 267, 9, 6), (9, 391, 9, 24), (9, 407, 9, 27)]
def q_CL : List (Nat × Nat × Nat) := [(1, 40, 0), (3, 9, 6), (6, 9, 1), (6, 24, 7), (8, 7, 2), (8, 16, 5), (8, 23, 6), (8, 36, 3), (8, 43, 4), (8, 50, 7), (10, 8, 8), (10, 152, 9)]
def q_XL : List (Nat × Nat × Nat) := [(8, 125, 0), (8, 203, 3), (8, 404, 2), (8, 409, 1), (10, 13, 0), (10, 19, 1), (10, 24, 2), (10, 47, 3)]
def q_ML : List (Nat × Nat × Nat) := [(1, 47, 78), (1, 76, 41), (1, 79, 42), (1, 92, 51), (1, 96, 50), (1, 99, 53), (1, 102, 48), (2, 19, 58), (3, 25, 65), (3, 29, 81), (4, 49, 80), (4, 55, 68), (4, 81, 69), (4, 180, 71), (5, 32, 74), (5, 35, 73), (5, 47, 77), (5, 62, 60), (6, 35, 55), (6, 39, 91), (6, 45, 75), (6, 69, 46), (6, 73, 92), (6, 95, 80), (6, 118, 54), (6, 122, 89), (6, 126, 53), (6, 136, 57), (6, 151, 48), (6, 158, 95), (6, 162, 90), (8, 38, 63), (8, 64, 59), (8, 68, 79), (8, 75, 88), (8, 79, 62), (8, 120, 83), (8, 132, 103), (8, 135, 80), (8, 139, 45), (8, 143, 49), (8, 146, 104), (8, 155, 53), (8, 163, 106), (8, 166, 108), (8, 169, 64), (8, 173, 82), (8, 178, 85), (8, 185, 107), (8, 189, 109), (8, 192, 92), (8, 215, 135), (8, 219, 87), (8, 223, 90), (8, 235, 105), (8, 241, 70), (8, 288, 94), (8, 319, 71), (8, 335, 119), (8, 339, 72), (8, 343, 102), (8, 346, 91), (8, 351, 67), (8, 355, 86), (8, 358, 81), (8, 364, 56), (8, 372, 44), (8, 392, 58), (8, 398, 60), (8, 427, 52), (9, 54, 183), (9, 57, 184), (9, 76, 186), (9, 82, 224), (9, 86, 234), (9, 90, 253), (9, 94, 250), (9, 98, 242), (9, 108, 174), (9, 129, 248), (9, 146, 206), (9, 154, 255), (9, 160, 176), (9, 163, 199), (9, 170, 182), (9, 212, 173), (9, 261, 233), (9, 273, 194), (9, 277, 197), (9, 280, 219), (9, 285, 223), (9, 291, 202), (9, 294, 236), (9, 297, 198), (9, 304, 212), (9, 307, 178), (9, 317, 190), (9, 320, 203), (9, 324, 231), (9, 328, 220), (9, 338, 256), (9, 341, 211), (9, 344, 247), (9, 347, 221), (9, 358, 222), (9, 368, 217), (9, 384, 261), (9, 388, 264), (9, 398, 209), (9, 410, 275), (10, 7, 111), (10, 15, 98), (10, 21, 110), (10, 26, 116), (10, 29, 143), (10, 33, 120), (10, 36, 124), (10, 39, 138), (10, 43, 167), (10, 49, 146), (10, 52, 152), (10, 55, 151), (10, 58, 160), (10, 61, 131), (10, 64, 155), (10, 67, 156), (10, 70, 112), (10, 74, 121), (10, 77, 123), (10, 81, 113), (10, 84, 159), (10, 87, 136), (10, 90, 142), (10, 94, 154), (10, 97, 101), (10, 100, 133), (10, 103, 125), (10, 107, 168), (10, 110, 163), (10, 113, 126), (10, 117, 130), (10, 120, 162), (10, 123, 165), (10, 126, 158), (10, 130, 169), (10, 133, 170), (10, 136, 100), (10, 139, 153), (10, 142, 96), (10, 145, 128), (10, 148, 145), (10, 151, 122), (10, 154, 200), (10, 155, 97), (10, 159, 175), (10, 160, 164), (10, 163, 267), (10, 164, 127), (10, 167, 208), (10, 168, 117), (10, 171, 192), (10, 172, 118), (10, 175, 193), (10, 176, 5), (10, 181, 187), (10, 182, 262), (10, 185, 1), (10, 188, 177), (10, 189, 4), (10, 191, 185), (10, 192, 8), (10, 194, 191), (10, 195, 22), (10, 197, 235), (10, 198, 161), (10, 202, 263), (10, 203, 9), (10, 205, 195), (10, 206, 12), (10, 208, 204), (10, 209, 20), (10, 212, 228), (10, 213, 37), (10, 216, 270), (10, 217, 24), (10, 219, 239), (10, 220, 144), (10, 223, 237), (10, 224, 149), (10, 228, 243), (10, 229, 150), (10, 232, 244), (10, 233, 26), (10, 235, 246), (10, 236, 25), (10, 238, 245), (10, 239, 33), (10, 241, 260), (10, 242, 17), (10, 244, 215), (10, 245, 29), (10, 247, 252), (10, 248, 30), (10, 250, 254), (10, 251, 6), (10, 254, 188), (10, 255, 10), (10, 257, 196), (10, 258, 147), (10, 261, 240), (10, 262, 11), (10, 265, 201), (10, 266, 7), (10, 268, 189), (10, 269, 32), (10, 271, 259), (10, 272, 19), (10, 274, 226), (10, 275, 21), (10, 278, 232), (10, 279, 28), (10, 281, 251), (10, 282, 157), (10, 285, 257), (10, 286, 3), (10, 288, 181), (10, 289, 132), (10, 292, 216), (10, 293, 18), (10, 295, 218), (10, 296, 13), (10, 298, 205), (10, 299, 38), (10, 301, 271), (10, 302, 35), (10, 304, 266), (10, 305, 14), (10, 307, 207), (10, 308, 139), (10, 312, 229), (10, 313, 16), (10, 315, 214), (10, 316, 34), (10, 318, 265), (10, 319, 36), (10, 321, 268), (10, 322, 140), (10, 325, 230), (10, 326, 31), (10, 328, 258), (10, 329, 171), (10, 332, 274), (10, 333, 39), (10, 335, 272), (10, 336, 40), (10, 338, 273), (10, 339, 99), (10, 342, 179), (10, 343, 2), (10, 345, 180), (10, 346, 27), (10, 348, 249), (10, 349, 0), (10, 351, 172), (10, 352, 129), (10, 355, 213), (10, 356, 15), (10, 358, 210), (10, 359, 137), (10, 362, 227), (10, 363, 134), (10, 366, 225), (10, 367, 166), (10, 370, 269), (10, 371, 148), (10, 374, 241), (10, 375, 23), (10, 377, 238)]
def q_NS : List (Nat × Nat × Nat) := [(1, 57, 115), (4, 63, 115), (4, 73, 114), (5, 25, 115), (5, 43, 114), (6, 115, 141), (7, 19, 115), (7, 23, 114)]
def q_NI : List (Nat × Nat × Nat) := [(1, 42, 43), (3, 17, 84), (6, 11, 47), (6, 26, 93), (8, 9, 61), (8, 18, 76), (8, 25, 84), (8, 45, 66), (8, 52, 93)]
def q_OL : List (Nat × Nat) := [(0, 1), (1, 3), (2, 3), (3, 3), (4, 3), (5, 3), (6, 3), (7, 3), (8, 1), (9, 1)]
def q_MM : List (Nat × Nat × Nat) := [(3, 33, 7), (4, 67, 7), (6, 145, 8), (7, 35, 6), (8, 280, 6), (8, 285, 7), (8, 312, 8), (9, 111, 6), (9, 116, 7)]
def q_CI : List (Nat × Nat × Int) := [(6, 114, 1000000)]
def q_CJ : List (Nat × Nat × Int) := [(6, 134, 4), (8, 299, 1000000), (9, 63, 100), (9, 65, 200), (9, 67, 1000), (9, 69, 5), (9, 71, 2), (9, 80, 1000000), (9, 102, 4), (9, 152, 3), (9, 182, 97), (9, 184, 122), (9, 186, 48), (9, 188, 57), (9, 271, 6), (9, 283, 12), (9, 300, (-100)), (9, 302, 16), (9, 353, 7), (9, 382, (-1))]
def q_TH : List (Nat × Nat × Nat × Nat) := [(8, 125, 0, 129), (8, 203, 3, 207), (8, 404, 2, 408), (8, 409, 1, 413)]
def q_SL : List (Nat × Nat) := [(8, 127), (8, 176), (8, 205), (8, 211), (8, 213), (8, 226), (8, 231), (8, 233), (8, 253), (8, 292), (8, 322), (8, 406), (8, 411), (8, 414), (8, 419), (8, 421), (8, 423), (8, 425), (8, 431), (8, 433)]
def q_VL : List Nat := [41, 42, 44, 45, 46, 48, 49, 50, 51, 52, 53, 54, 55, 56, 57, 58, 59, 60, 62, 64, 65, 67, 68, 69, 70, 71, 72, 73, 74, 75, 77, 78, 79, 80, 81, 82, 83, 85, 86, 87, 88, 89, 90, 91, 92, 94, 95, 96, 97, 98, 99, 100, 101, 102, 103, 104, 105, 106, 107, 108, 109, 110, 111, 112, 113, 116, 117, 118, 119, 120, 121, 123, 124, 125, 126, 127, 128, 129, 130, 131, 132, 133, 134, 135, 136, 137, 138, 139, 140, 142, 143, 144, 145, 146, 147, 148, 149, 150, 151, 152, 153, 154, 155, 156, 157, 158, 159, 160, 161, 162, 163, 164, 165, 166, 167, 168, 169, 170, 171, 172, 173, 175, 176, 177, 178, 179, 180, 181, 182, 183, 184, 185, 187, 188, 189, 190, 191, 192, 193, 194, 195, 196, 197, 198, 201, 202, 203, 204, 205, 206, 207, 208, 209, 210, 211, 212, 213, 214, 215, 216, 217, 218, 219, 220, 221, 222, 223, 224, 225, 226, 227, 228, 229, 230, 231, 232, 233, 234, 235, 236, 237, 238, 239, 240, 241, 242, 243, 244, 245, 246, 247, 249, 250, 251, 252, 253, 254, 255, 256, 257, 258, 259, 260, 261, 262, 263, 264, 265, 266, 267, 268, 269, 270, 271, 272, 273, 274, 275]
def q_ST : List Nat := [0, 1, 2, 3, 4, 5, 6, 7, 8, 9, 10, 11, 12, 13, 14, 15, 16, 17, 18, 19, 20, 21, 22, 23, 24, 25, 26, 27, 28, 29, 30, 31, 32, 33, 34, 35, 36, 37, 38, 39, 40, 114, 115, 141, 174, 186, 199, 248]
def q_IL : List Nat := [43, 47, 61, 63, 66, 76, 84, 93, 122, 200]
def q_sg (n : Nat) : List Cond := match n with
  | 0 => k2_sels lw_privs
  | 1 => tables_1_1
  | 2 => tables_1_2
  | 3 => tables_1_3
  | 4 => tables_1_4
  | 5 => tables_1_5
  | 6 => tables_1_6
  | 7 => tables_1_7
  | 8 => tables_1_8
  | _ => tables_1_9
theorem q_sg_in : ∀ n, ∀ w ∈ q_sg n, w ∈ lw_tbl := by
  intro n w hw
  have hT : ∀ w ∈ tables_1, w ∈ lw_tbl := fun w h => List.mem_append_right _ h
  match n, hw with
  | 0, hw => exact List.mem_append_left _ hw
  | 1, hw => exact hT w (List.mem_append_left _ hw)
  | 2, hw => exact hT w (List.mem_append_right _ (List.mem_append_left _ hw))
  | 3, hw => exact hT w (List.mem_append_right _ (List.mem_append_right _ (List.mem_append_left _ hw)))
  | 4, hw => exact hT w (List.mem_append_right _ (List.mem_append_right _ (List.mem_append_right _ (List.mem_append_left _ hw))))
  | 5, hw => exact hT w (List.mem_append_right _ (List.mem_append_right _ (List.mem_append_right _ (List.mem_append_right _ (List.mem_append_left _ hw)))))
  | 6, hw => exact hT w (List.mem_append_right _ (List.mem_append_right _ (List.mem_append_right _ (List.mem_append_right _ (List.mem_append_right _ (List.mem_append_left _ hw))))))
  | 7, hw => exact hT w (List.mem_append_right _ (List.mem_append_right _ (List.mem_append_right _ (List.mem_append_right _ (List.mem_append_right _ (List.mem_append_right _ (List.mem_append_left _ hw)))))))
  | 8, hw => exact hT w (List.mem_append_right _ (List.mem_append_right _ (List.mem_append_right _ (List.mem_append_right _ (List.mem_append_right _ (List.mem_append_right _ (List.mem_append_right _ (List.mem_append_left _ hw))))))))
  | n + 9, hw => exact hT w (List.mem_append_right _ (List.mem_append_right _ (List.mem_append_right _ (List.mem_append_right _ (List.mem_append_right _ (List.mem_append_right _ (List.mem_append_right _ (List.mem_append_right _ hw))))))))
theorem q_gp (ws : List Cond) (ps : List (Nat × Nat)) (h1 : ws = ps.filterMap (fun q => (q_sg q.1)[q.2]?)) (h2 : ws.all goodWord = true) : GoodIn lw_tbl ws := by
  intro w hw
  have h3 := List.all_eq_true.mp h2 w hw
  rw [h1] at hw
  obtain ⟨q, -, hq⟩ := List.mem_filterMap.mp hw
  exact ⟨q_sg_in _ _ (List.mem_of_getElem? hq), good_of_word h3⟩
def q_G_u0 : List Cond := u_ws (q_on 0) q_CF0 7
theorem q_G_u0_g : GoodIn lw_tbl q_G_u0 := q_gp _ [(1, 118), (1, 120), (1, 122), (1, 124), (1, 126), (1, 128), (1, 130)] (by decide +kernel) (by decide +kernel)
def q_G_u1 : List Cond := u_ws (q_on 1) q_CF1 15
theorem q_G_u1_g : GoodIn lw_tbl q_G_u1 := q_gp _ [(1, 163), (1, 165), (1, 167), (1, 169), (1, 171), (1, 173), (1, 175), (1, 177), (1, 179), (1, 181), (1, 183), (1, 185), (1, 187), (1, 189), (1, 191)] (by decide +kernel) (by decide +kernel)
def q_G_u2 : List Cond := u_ws (q_on 2) q_CF2 2
theorem q_G_u2_g : GoodIn lw_tbl q_G_u2 := q_gp _ [(1, 43), (1, 45)] (by decide +kernel) (by decide +kernel)
def q_G_u3 : List Cond := u_ws (q_on 3) q_CF3 3
theorem q_G_u3_g : GoodIn lw_tbl q_G_u3 := q_gp _ [(2, 29), (2, 31), (2, 33)] (by decide +kernel) (by decide +kernel)
def q_G_u4 : List Cond := u_ws (q_on 4) q_CF4 11
theorem q_G_u4_g : GoodIn lw_tbl q_G_u4 := q_gp _ [(2, 54), (2, 56), (2, 58), (2, 60), (2, 62), (2, 64), (2, 66), (2, 68), (2, 70), (2, 72), (2, 74)] (by decide +kernel) (by decide +kernel)
def q_G_u5 : List Cond := u_ws (q_on 5) q_CF5 7
theorem q_G_u5_g : GoodIn lw_tbl q_G_u5 := q_gp _ [(1, 66), (1, 68), (1, 70), (1, 72), (1, 74), (1, 76), (1, 78)] (by decide +kernel) (by decide +kernel)
def q_G_u6 : List Cond := u_ws (q_on 6) q_CF6 11
theorem q_G_u6_g : GoodIn lw_tbl q_G_u6 := q_gp _ [(1, 233), (1, 235), (1, 237), (1, 239), (2, 1), (2, 3), (2, 5), (2, 7), (2, 9), (2, 11), (2, 13)] (by decide +kernel) (by decide +kernel)
def q_G_u7 : List Cond := u_ws (q_on 7) q_CF7 2
theorem q_G_u7_g : GoodIn lw_tbl q_G_u7 := q_gp _ [(1, 205), (1, 207)] (by decide +kernel) (by decide +kernel)
def q_G_u8 : List Cond := u_ws (q_on 8) q_CF8 10
theorem q_G_u8_g : GoodIn lw_tbl q_G_u8 := q_gp _ [(2, 89), (2, 91), (2, 93), (2, 95), (2, 97), (2, 99), (2, 101), (2, 103), (2, 105), (2, 107)] (by decide +kernel) (by decide +kernel)
def q_G_u9 : List Cond := u_ws (q_on 9) q_CF9 28
theorem q_G_u9_g : GoodIn lw_tbl q_G_u9 := q_gp _ [(7, 65), (7, 67), (7, 69), (7, 71), (7, 73), (7, 75), (7, 77), (7, 79), (7, 81), (7, 83), (7, 85), (7, 87), (7, 89), (7, 91), (7, 93), (7, 95), (7, 97), (7, 99), (7, 101), (7, 103), (7, 105), (7, 107), (7, 109), (7, 111), (7, 113), (7, 115), (7, 117), (7, 119)] (by decide +kernel) (by decide +kernel)
def q_G_f : List Cond := q_FL.map (fun q => Cond.fieldLink (q_on q.1) q.2.1 (q_cF q.2.2.1 q.2.2.2).1 (q_cF q.2.2.1 q.2.2.2).2.1 (q_cF q.2.2.1 q.2.2.2).2.2.1)
theorem q_G_f_g : GoodIn lw_tbl q_G_f := q_gp _ [(1, 100), (1, 103), (1, 106), (1, 110), (1, 112), (1, 114), (1, 116), (1, 133), (1, 135), (1, 138), (1, 140), (1, 142), (1, 143), (1, 147), (1, 149), (1, 151), (1, 160), (1, 57), (1, 144), (1, 146), (1, 152), (1, 155), (1, 159), (1, 101), (1, 104), (1, 107), (1, 39), (1, 40), (2, 25), (2, 26), (2, 28), (2, 42), (2, 43), (2, 44), (2, 45), (2, 46), (2, 47), (2, 48), (2, 49), (2, 50), (1, 202), (2, 51), (2, 53), (1, 156), (1, 148), (1, 55), (1, 56), (1, 61), (1, 63), (1, 60), (1, 59), (1, 65), (1, 42), (1, 210), (1, 212), (1, 214), (1, 216), (1, 218), (1, 58), (1, 220), (1, 223), (1, 225), (1, 227), (1, 229), (1, 231), (1, 153), (1, 161), (1, 108), (1, 113), (1, 200), (1, 201), (2, 79), (2, 80), (2, 81), (2, 82), (2, 83), (2, 84), (2, 85), (2, 86), (2, 87), (1, 41), (1, 62), (2, 88), (1, 211), (1, 134), (1, 213), (1, 215), (1, 64), (1, 219), (1, 222), (1, 224), (1, 226), (1, 217), (1, 204), (2, 27), (1, 158), (1, 228), (1, 145), (1, 150), (2, 52), (1, 162), (1, 232), (1, 230), (1, 102), (1, 105), (1, 109), (1, 154), (7, 37), (7, 38), (7, 39), (7, 40), (7, 41), (7, 45), (7, 46), (7, 47), (7, 48), (7, 49), (7, 50), (7, 53), (7, 62), (7, 63), (7, 44), (7, 42), (7, 51), (7, 56), (7, 57), (7, 58), (7, 59), (7, 54), (7, 55), (7, 60), (7, 52), (7, 43), (7, 61), (7, 64)] (by decide +kernel) (by decide +kernel)
def q_G_c : List Cond := q_CL.map (fun q => Cond.classLink (q_on q.1) q.2.1 (q_on q.2.2))
theorem q_G_c_g : GoodIn lw_tbl q_G_c := q_gp _ [(1, 94), (2, 22), (1, 88), (1, 194), (1, 33), (1, 49), (1, 82), (2, 16), (2, 36), (2, 77), (1, 25), (7, 18)] (by decide +kernel) (by decide +kernel)
def q_G_x : List Cond := q_XL.map (fun q => Cond.classLink (q_on q.1) q.2.1 (q_ex q.2.2))
theorem q_G_x_g : GoodIn lw_tbl q_G_x := q_gp _ [(4, 162), (5, 172), (5, 39), (5, 2), (4, 153), (4, 233), (5, 30), (5, 167)] (by decide +kernel) (by decide +kernel)
def q_G_i : List Cond := (List.range 10).map (fun n => Cond.instantiable (q_on n) (q_cN n))
theorem q_G_i_g : GoodIn lw_tbl q_G_i := q_gp _ [(1, 95), (1, 89), (1, 34), (2, 17), (2, 37), (1, 50), (1, 83), (1, 195), (1, 26), (7, 19)] (by decide +kernel) (by decide +kernel)
def q_G_t : List Cond := (List.range 11).map (fun n => Cond.initialized (q_on n))
theorem q_G_t_g : GoodIn lw_tbl q_G_t := q_gp _ [(1, 6), (1, 5), (1, 2), (1, 8), (1, 9), (1, 3), (1, 4), (1, 7), (1, 1), (1, 10), (1, 0)] (by decide +kernel) (by decide +kernel)
def q_G_e : List Cond := (List.range 4).map (fun n => Cond.initialized (q_ex n))
theorem q_G_e_g : GoodIn lw_tbl q_G_e := q_gp _ [(1, 18), (1, 19), (1, 20), (1, 22)] (by decide +kernel) (by decide +kernel)
def q_G_a : List Cond := [Cond.arrayClass .int, .arrayClass .byte, .arrayClass .long, .arrayClass .double]
theorem q_G_a_g : GoodIn lw_tbl q_G_a := q_gp _ [(1, 81), (1, 48), (7, 122), (9, 202)] (by decide +kernel) (by decide +kernel)
def q_G_m0 : List Cond := (List.range' 0 60).map q_cw
theorem q_G_m0_g : GoodIn lw_tbl q_G_m0 := q_gp _ [(6, 234), (4, 232), (6, 216), (6, 115), (5, 29), (4, 152), (6, 32), (6, 63), (5, 57), (5, 79), (6, 48), (6, 55), (5, 116), (6, 132), (6, 162), (7, 5), (6, 169), (5, 231), (6, 124), (6, 81), (5, 129), (6, 93), (5, 68), (7, 12), (5, 194), (5, 211), (5, 203), (6, 223), (6, 104), (6, 10), (6, 20), (6, 194), (6, 70), (5, 219), (6, 177), (6, 155), (6, 186), (5, 166), (6, 140), (6, 202), (6, 209), (3, 42), (3, 87), (1, 98), (7, 2), (5, 22), (3, 83), (1, 92), (3, 224), (5, 26), (3, 232), (3, 228), (5, 141), (5, 76), (5, 101), (3, 36), (6, 231), (5, 113), (2, 121), (2, 117)] (by decide +kernel) (by decide +kernel)
def q_G_m1 : List Cond := (List.range' 60 60).map q_cw
theorem q_G_m1_g : GoodIn lw_tbl q_G_m1 := q_gp _ [(2, 152), (1, 37), (3, 51), (2, 20), (3, 71), (3, 75), (2, 40), (3, 120), (3, 128), (3, 176), (4, 33), (4, 71), (4, 67), (2, 148), (2, 137), (2, 235), (1, 53), (2, 144), (3, 22), (2, 133), (3, 124), (3, 79), (5, 97), (4, 161), (1, 86), (5, 125), (4, 88), (3, 192), (3, 32), (3, 214), (3, 100), (3, 46), (3, 91), (1, 198), (4, 41), (4, 14), (6, 238), (2, 113), (4, 237), (4, 97), (6, 220), (6, 119), (5, 150), (5, 1), (5, 38), (5, 227), (5, 87), (5, 137), (5, 92), (5, 146), (5, 34), (4, 157), (6, 36), (6, 67), (2, 140), (3, 14), (5, 61), (3, 55), (3, 59), (4, 92)] (by decide +kernel) (by decide +kernel)
def q_G_m2 : List Cond := (List.range' 120 60).map q_cw
theorem q_G_m2_g : GoodIn lw_tbl q_G_m2 := q_gp _ [(5, 83), (6, 52), (1, 29), (6, 59), (5, 120), (6, 136), (6, 166), (2, 129), (7, 9), (4, 118), (6, 173), (5, 235), (4, 37), (6, 128), (4, 136), (3, 116), (6, 85), (4, 125), (5, 133), (4, 54), (4, 63), (3, 155), (6, 97), (5, 72), (3, 67), (7, 16), (5, 198), (3, 112), (4, 149), (3, 104), (3, 108), (5, 215), (5, 207), (6, 227), (6, 108), (6, 14), (6, 24), (4, 29), (6, 198), (6, 74), (5, 223), (3, 63), (6, 181), (6, 159), (2, 125), (6, 190), (4, 141), (5, 171), (6, 144), (6, 206), (6, 213), (4, 84), (9, 165), (7, 152), (8, 73), (7, 130), (7, 134), (7, 238), (8, 97), (9, 145)] (by decide +kernel) (by decide +kernel)
def q_G_m3 : List Cond := (List.range' 180 60).map q_cw
theorem q_G_m3_g : GoodIn lw_tbl q_G_m3 := q_gp _ [(9, 157), (9, 49), (7, 156), (7, 27), (7, 36), (8, 7), (7, 148), (7, 225), (9, 25), (8, 125), (8, 113), (8, 15), (7, 217), (7, 221), (7, 230), (8, 35), (8, 65), (7, 234), (8, 47), (7, 141), (7, 22), (8, 117), (8, 39), (8, 84), (8, 69), (9, 96), (8, 149), (9, 76), (7, 145), (9, 133), (9, 173), (8, 167), (8, 92), (9, 169), (9, 92), (8, 236), (9, 53), (9, 57), (9, 64), (8, 2), (8, 129), (8, 232), (9, 17), (8, 11), (7, 213), (9, 189), (9, 21), (9, 177), (8, 80), (9, 88), (9, 109), (8, 88), (9, 37), (7, 164), (8, 27), (8, 23), (8, 43), (8, 204), (9, 201), (8, 163)] (by decide +kernel) (by decide +kernel)
def q_G_m4 : List Cond := (List.range' 240 36).map q_cw
theorem q_G_m4_g : GoodIn lw_tbl q_G_m4 := q_gp _ [(8, 200), (9, 197), (8, 56), (8, 208), (8, 216), (8, 224), (8, 220), (8, 212), (8, 76), (9, 161), (8, 51), (9, 41), (9, 9), (8, 60), (9, 13), (8, 196), (8, 145), (9, 45), (9, 125), (8, 137), (8, 228), (9, 104), (7, 126), (8, 31), (9, 100), (9, 68), (9, 121), (7, 138), (9, 72), (9, 193), (8, 121), (9, 113), (9, 137), (9, 141), (9, 129), (9, 181)] (by decide +kernel) (by decide +kernel)
def q_G_vi : List Cond := q_VL.map (fun i => Cond.instanceMethod (q_y i))
theorem q_G_vi_g : GoodIn lw_tbl q_G_vi := q_gp _ [(3, 40), (3, 85), (7, 0), (5, 20), (3, 81), (3, 222), (5, 24), (3, 231), (3, 227), (5, 139), (5, 74), (5, 99), (3, 34), (6, 229), (5, 111), (2, 119), (2, 115), (2, 150), (3, 49), (3, 69), (3, 74), (3, 118), (3, 127), (3, 175), (4, 31), (4, 69), (4, 65), (2, 147), (2, 136), (2, 233), (2, 143), (3, 20), (2, 131), (3, 122), (3, 77), (5, 95), (4, 159), (5, 123), (4, 86), (3, 190), (3, 30), (3, 212), (3, 98), (3, 44), (3, 89), (4, 39), (4, 12), (6, 236), (2, 111), (4, 235), (4, 95), (6, 218), (6, 117), (5, 149), (5, 0), (5, 37), (5, 226), (5, 86), (5, 136), (5, 91), (5, 145), (5, 32), (4, 155), (6, 34), (6, 65), (5, 59), (3, 53), (3, 57), (4, 91), (5, 81), (6, 50), (6, 57), (5, 118), (6, 134), (6, 164), (2, 127), (7, 7), (4, 116), (6, 171), (5, 233), (4, 35), (6, 126), (4, 134), (3, 115), (6, 83), (4, 123), (5, 131), (4, 52), (4, 61), (6, 95), (5, 70), (3, 65), (7, 14), (5, 196), (3, 110), (4, 147), (3, 102), (3, 106), (5, 213), (5, 205), (6, 225), (6, 106), (6, 12), (6, 22), (4, 27), (6, 196), (6, 72), (5, 221), (3, 61), (6, 179), (6, 157), (2, 123), (6, 188), (4, 139), (5, 169), (6, 142), (6, 204), (6, 211), (4, 82), (9, 163), (7, 151), (7, 128), (7, 133), (7, 236), (8, 96), (9, 143), (9, 155), (9, 47), (7, 155), (7, 26), (7, 35), (8, 5), (7, 223), (9, 23), (8, 123), (8, 112), (8, 13), (7, 215), (7, 219), (7, 229), (8, 33), (8, 63), (7, 233), (8, 46), (8, 115), (8, 38), (8, 83), (8, 67), (9, 94), (8, 148), (9, 74), (7, 143), (9, 132), (9, 171), (8, 166), (8, 91), (9, 167), (9, 90), (8, 234), (9, 51), (9, 56), (9, 62), (8, 1), (8, 128), (8, 231), (9, 16), (8, 10), (7, 212), (9, 187), (9, 19), (9, 175), (8, 78), (9, 86), (9, 107), (8, 87), (9, 35), (7, 163), (8, 26), (8, 21), (8, 42), (8, 202), (9, 199), (8, 161), (8, 198), (9, 195), (8, 55), (8, 206), (8, 214), (8, 222), (8, 218), (8, 211), (9, 159), (8, 50), (9, 39), (9, 7), (8, 59), (9, 11), (8, 195), (8, 144), (9, 43), (9, 123), (8, 135), (8, 226), (9, 103), (7, 124), (8, 29), (9, 99), (9, 66), (9, 119), (7, 136), (9, 70), (9, 191), (8, 119), (9, 111), (9, 135), (9, 139), (9, 127), (9, 180)] (by decide +kernel) (by decide +kernel)
def q_G_vs : List Cond := q_VL.map (fun i => Cond.selects (q_y i).cls (q_y i) (q_y i))
theorem q_G_vs_g : GoodIn lw_tbl q_G_vs := q_gp _ [(3, 41), (3, 86), (7, 1), (5, 21), (3, 82), (3, 223), (5, 25), (0, 22), (0, 21), (5, 140), (5, 75), (5, 100), (3, 35), (6, 230), (5, 112), (2, 120), (2, 116), (2, 151), (3, 50), (3, 70), (0, 10), (3, 119), (0, 12), (0, 16), (4, 32), (4, 70), (4, 66), (0, 2), (0, 0), (2, 234), (0, 1), (3, 21), (2, 132), (3, 123), (3, 78), (5, 96), (4, 160), (5, 124), (4, 87), (3, 191), (3, 31), (3, 213), (3, 99), (3, 45), (3, 90), (4, 40), (4, 13), (6, 237), (2, 112), (4, 236), (4, 96), (6, 219), (6, 118), (0, 35), (0, 28), (0, 29), (0, 37), (0, 30), (0, 33), (0, 31), (0, 34), (5, 33), (4, 156), (6, 35), (6, 66), (5, 60), (3, 54), (3, 58), (0, 25), (5, 82), (6, 51), (6, 58), (5, 119), (6, 135), (6, 165), (2, 128), (7, 8), (4, 117), (6, 172), (5, 234), (4, 36), (6, 127), (4, 135), (0, 11), (6, 84), (4, 124), (5, 132), (4, 53), (4, 62), (6, 96), (5, 71), (3, 66), (7, 15), (5, 197), (3, 111), (4, 148), (3, 103), (3, 107), (5, 214), (5, 206), (6, 226), (6, 107), (6, 13), (6, 23), (4, 28), (6, 197), (6, 73), (5, 222), (3, 62), (6, 180), (6, 158), (2, 124), (6, 189), (4, 140), (5, 170), (6, 143), (6, 205), (6, 212), (4, 83), (9, 164), (0, 45), (7, 129), (0, 44), (7, 237), (0, 72), (9, 144), (9, 156), (9, 48), (0, 46), (0, 42), (0, 43), (8, 6), (7, 224), (9, 24), (8, 124), (0, 76), (8, 14), (7, 216), (7, 220), (0, 57), (8, 34), (8, 64), (0, 58), (0, 65), (8, 116), (0, 63), (0, 69), (8, 68), (9, 95), (0, 81), (9, 75), (7, 144), (0, 102), (9, 172), (0, 84), (0, 71), (9, 168), (9, 91), (8, 235), (9, 52), (0, 97), (9, 63), (0, 59), (0, 77), (0, 93), (0, 96), (0, 60), (0, 56), (9, 188), (9, 20), (9, 176), (8, 79), (9, 87), (9, 108), (0, 70), (9, 36), (0, 47), (0, 62), (8, 22), (0, 64), (8, 203), (9, 200), (8, 162), (8, 199), (9, 196), (0, 67), (8, 207), (8, 215), (8, 223), (8, 219), (0, 92), (9, 160), (0, 66), (9, 40), (9, 8), (0, 68), (9, 12), (0, 91), (0, 80), (9, 44), (9, 124), (8, 136), (8, 227), (0, 100), (7, 125), (8, 30), (0, 99), (9, 67), (9, 120), (7, 137), (9, 71), (9, 192), (8, 120), (9, 112), (9, 136), (9, 140), (9, 128), (0, 105)] (by decide +kernel) (by decide +kernel)
def q_G_ss : List Cond := q_ST.map (fun i => Cond.static (q_y i))
theorem q_G_ss_g : GoodIn lw_tbl q_G_ss := q_gp _ [(6, 233), (4, 231), (6, 215), (6, 114), (5, 28), (4, 151), (6, 31), (6, 62), (5, 56), (5, 78), (6, 47), (6, 54), (5, 115), (6, 131), (6, 161), (7, 4), (6, 168), (5, 230), (6, 123), (6, 80), (5, 128), (6, 92), (5, 67), (7, 11), (5, 193), (5, 210), (5, 202), (6, 222), (6, 103), (6, 9), (6, 19), (6, 193), (6, 69), (5, 218), (6, 176), (6, 154), (6, 185), (5, 165), (6, 139), (6, 201), (6, 208), (2, 139), (3, 13), (3, 154), (8, 72), (7, 147), (7, 140), (8, 75)] (by decide +kernel) (by decide +kernel)
def q_G_ii : List Cond := q_IL.map (fun i => Cond.instanceMethod (q_y i))
theorem q_G_ii_g : GoodIn lw_tbl q_G_ii := q_gp _ [(1, 97), (1, 91), (1, 36), (2, 19), (2, 39), (1, 52), (1, 85), (1, 197), (1, 28), (7, 21)] (by decide +kernel) (by decide +kernel)
def q_G_ml : List Cond := q_ML.map (fun q => Cond.methodLink (q_on q.1) q.2.1 (q_y q.2.2))
theorem q_G_ml_g : GoodIn lw_tbl q_G_ml := q_gp _ [(3, 37), (3, 39), (3, 84), (3, 225), (3, 229), (5, 102), (5, 103), (2, 118), (3, 72), (3, 76), (3, 121), (3, 125), (3, 173), (4, 68), (2, 134), (2, 145), (2, 141), (2, 149), (3, 33), (3, 43), (3, 47), (3, 80), (3, 88), (3, 201), (5, 98), (3, 211), (5, 104), (5, 110), (3, 221), (4, 11), (4, 25), (2, 18), (2, 114), (2, 130), (3, 29), (3, 48), (4, 158), (4, 238), (5, 18), (5, 19), (5, 23), (5, 35), (5, 73), (5, 84), (5, 89), (3, 68), (5, 94), (5, 122), (5, 134), (5, 143), (5, 153), (3, 113), (3, 189), (3, 97), (5, 224), (4, 30), (4, 38), (6, 137), (4, 89), (4, 64), (5, 147), (6, 199), (3, 117), (4, 85), (4, 93), (6, 228), (6, 239), (4, 126), (4, 137), (5, 138), (7, 24), (7, 33), (7, 146), (7, 210), (8, 24), (8, 57), (8, 48), (8, 53), (8, 71), (8, 74), (8, 146), (8, 193), (7, 131), (7, 139), (7, 153), (7, 149), (7, 161), (7, 227), (7, 231), (7, 239), (8, 8), (8, 36), (8, 40), (8, 44), (8, 89), (8, 94), (8, 110), (8, 81), (8, 85), (8, 126), (8, 142), (8, 164), (8, 209), (8, 229), (9, 14), (9, 54), (9, 101), (9, 97), (9, 130), (9, 178), (4, 154), (4, 234), (5, 31), (5, 58), (5, 69), (5, 80), (5, 117), (5, 130), (5, 168), (5, 195), (5, 204), (5, 212), (5, 220), (5, 232), (6, 11), (6, 21), (6, 33), (6, 49), (6, 56), (6, 64), (6, 71), (6, 82), (6, 94), (6, 105), (6, 116), (6, 125), (6, 133), (6, 141), (6, 156), (6, 163), (6, 170), (6, 178), (6, 187), (6, 195), (6, 203), (6, 210), (6, 217), (6, 224), (6, 235), (7, 6), (7, 13), (1, 27), (7, 20), (2, 110), (7, 127), (2, 122), (7, 135), (2, 126), (7, 142), (3, 52), (7, 214), (3, 56), (7, 218), (4, 150), (7, 222), (7, 123), (4, 230), (7, 235), (5, 27), (8, 4), (5, 55), (8, 12), (5, 66), (8, 20), (3, 60), (8, 28), (5, 77), (8, 32), (5, 114), (8, 66), (5, 127), (8, 77), (5, 164), (8, 118), (5, 192), (8, 160), (3, 64), (8, 201), (3, 101), (8, 205), (3, 105), (8, 213), (5, 201), (8, 217), (5, 209), (8, 221), (5, 217), (8, 225), (5, 229), (8, 233), (6, 8), (9, 6), (6, 18), (9, 10), (6, 30), (9, 22), (6, 46), (8, 62), (3, 109), (8, 197), (6, 53), (8, 114), (6, 61), (8, 122), (6, 68), (8, 134), (6, 79), (9, 18), (6, 91), (9, 34), (6, 102), (9, 38), (4, 26), (9, 42), (6, 113), (9, 46), (4, 34), (9, 50), (6, 122), (9, 61), (6, 130), (9, 93), (6, 138), (9, 110), (6, 153), (9, 118), (6, 160), (9, 73), (4, 51), (9, 85), (6, 167), (9, 89), (6, 175), (9, 65), (6, 184), (9, 69), (4, 60), (9, 106), (6, 192), (9, 122), (4, 81), (9, 126), (6, 200), (9, 134), (6, 207), (9, 138), (4, 94), (9, 142), (6, 214), (9, 154), (6, 221), (9, 158), (6, 232), (9, 162), (4, 115), (9, 166), (7, 3), (9, 170), (4, 122), (9, 174), (4, 133), (9, 186), (4, 138), (9, 190), (4, 146), (9, 194), (7, 10), (9, 198)] (by decide +kernel) (by decide +kernel)
def q_G_ol : List Cond := q_OL.map (fun q => Cond.methodLink (q_on q.1) q.2 objectInit)
theorem q_G_ol_g : GoodIn lw_tbl q_G_ol := q_gp _ [(1, 99), (1, 93), (1, 38), (2, 21), (2, 41), (1, 54), (1, 87), (1, 199), (1, 30), (7, 23)] (by decide +kernel) (by decide +kernel)
def q_G_oc : List Cond := [Cond.instanceMethod objectInit, .code objectInit ⟨#[0xb1]⟩ 1 none]
theorem q_G_oc_g : GoodIn lw_tbl q_G_oc := q_gp _ [(1, 31), (1, 32)] (by decide +kernel) (by decide +kernel)
def q_G_mm : List Cond := q_MM.map (fun q => Cond.methodLink (q_on q.1) q.2.1 (if q.2.2 = 6 then Lib.Math.max.name else if q.2.2 = 7 then Lib.Math.min.name else Lib.Math.abs.name))
theorem q_G_mm_g : GoodIn lw_tbl q_G_mm := q_gp _ [(3, 94), (3, 156), (5, 126), (4, 24), (6, 120), (6, 121), (6, 183), (8, 154), (8, 155)] (by decide +kernel) (by decide +kernel)
def q_G_mc : List Cond := [Cond.static Lib.Math.max.name, .static Lib.Math.min.name, .initialized "java/lang/Math", .code Lib.Math.max.name Lib.Math.max.code 2 (some .int), .code Lib.Math.min.name Lib.Math.min.code 2 (some .int), .static Lib.Math.abs.name, .code Lib.Math.abs.name Lib.Math.abs.code 1 (some .int)]
theorem q_G_mc_g : GoodIn lw_tbl q_G_mc := q_gp _ [(3, 150), (3, 95), (1, 21), (3, 151), (3, 96), (3, 147), (3, 148)] (by decide +kernel) (by decide +kernel)
def q_G_ci : List Cond := q_CI.map (fun q => Cond.constant (q_on q.1) q.2.1 (Int32.ofInt q.2.2))
theorem q_G_ci_g : GoodIn lw_tbl q_G_ci := q_gp _ [(3, 215)] (by decide +kernel) (by decide +kernel)
def q_G_cj : List Cond := q_CJ.map (fun q => Cond.constantLong (q_on q.1) q.2.1 (Int64.ofInt q.2.2))
theorem q_G_cj_g : GoodIn lw_tbl q_G_cj := q_gp _ [(5, 109), (6, 174), (7, 28), (7, 29), (7, 30), (7, 31), (7, 32), (8, 52), (8, 61), (8, 192), (7, 157), (7, 158), (7, 159), (7, 160), (7, 226), (8, 3), (8, 70), (8, 93), (8, 237), (9, 105)] (by decide +kernel) (by decide +kernel)
def q_GL : List Cond := q_G_u0 ++ (q_G_u1 ++ (q_G_u2 ++ (q_G_u3 ++ (q_G_u4 ++ (q_G_u5 ++ (q_G_u6 ++ (q_G_u7 ++ (q_G_u8 ++ (q_G_u9 ++ (q_G_f ++ (q_G_c ++ (q_G_x ++ (q_G_i ++ (q_G_t ++ (q_G_e ++ (q_G_a ++ (q_G_m0 ++ (q_G_m1 ++ (q_G_m2 ++ (q_G_m3 ++ (q_G_m4 ++ (q_G_vi ++ (q_G_vs ++ (q_G_ss ++ (q_G_ii ++ (q_G_ml ++ (q_G_ol ++ (q_G_oc ++ (q_G_mm ++ (q_G_mc ++ (q_G_ci ++ (q_G_cj))))))))))))))))))))))))))))))))
theorem q_ga {big a b : List Cond} (ha : GoodIn big a) (hb : GoodIn big b) : GoodIn big (a ++ b) := fun w h => (List.mem_append.mp h).elim (ha w) (hb w)
theorem q_GL_g : GoodIn lw_tbl q_GL := q_ga q_G_u0_g (q_ga q_G_u1_g (q_ga q_G_u2_g (q_ga q_G_u3_g (q_ga q_G_u4_g (q_ga q_G_u5_g (q_ga q_G_u6_g (q_ga q_G_u7_g (q_ga q_G_u8_g (q_ga q_G_u9_g (q_ga q_G_f_g (q_ga q_G_c_g (q_ga q_G_x_g (q_ga q_G_i_g (q_ga q_G_t_g (q_ga q_G_e_g (q_ga q_G_a_g (q_ga q_G_m0_g (q_ga q_G_m1_g (q_ga q_G_m2_g (q_ga q_G_m3_g (q_ga q_G_m4_g (q_ga q_G_vi_g (q_ga q_G_vs_g (q_ga q_G_ss_g (q_ga q_G_ii_g (q_ga q_G_ml_g (q_ga q_G_ol_g (q_ga q_G_oc_g (q_ga q_G_mm_g (q_ga q_G_mc_g (q_ga q_G_ci_g (q_G_cj_g))))))))))))))))))))))))))))))))
theorem q_G_u0_m {w : Cond} (h : w ∈ q_G_u0) : w ∈ q_GL := List.mem_append_left _ h
theorem q_G_u1_m {w : Cond} (h : w ∈ q_G_u1) : w ∈ q_GL := List.mem_append_right _ (List.mem_append_left _ h)
theorem q_G_u2_m {w : Cond} (h : w ∈ q_G_u2) : w ∈ q_GL := List.mem_append_right _ (List.mem_append_right _ (List.mem_append_left _ h))
theorem q_G_u3_m {w : Cond} (h : w ∈ q_G_u3) : w ∈ q_GL := List.mem_append_right _ (List.mem_append_right _ (List.mem_append_right _ (List.mem_append_left _ h)))
theorem q_G_u4_m {w : Cond} (h : w ∈ q_G_u4) : w ∈ q_GL := List.mem_append_right _ (List.mem_append_right _ (List.mem_append_right _ (List.mem_append_right _ (List.mem_append_left _ h))))
theorem q_G_u5_m {w : Cond} (h : w ∈ q_G_u5) : w ∈ q_GL := List.mem_append_right _ (List.mem_append_right _ (List.mem_append_right _ (List.mem_append_right _ (List.mem_append_right _ (List.mem_append_left _ h)))))
theorem q_G_u6_m {w : Cond} (h : w ∈ q_G_u6) : w ∈ q_GL := List.mem_append_right _ (List.mem_append_right _ (List.mem_append_right _ (List.mem_append_right _ (List.mem_append_right _ (List.mem_append_right _ (List.mem_append_left _ h))))))
theorem q_G_u7_m {w : Cond} (h : w ∈ q_G_u7) : w ∈ q_GL := List.mem_append_right _ (List.mem_append_right _ (List.mem_append_right _ (List.mem_append_right _ (List.mem_append_right _ (List.mem_append_right _ (List.mem_append_right _ (List.mem_append_left _ h)))))))
theorem q_G_u8_m {w : Cond} (h : w ∈ q_G_u8) : w ∈ q_GL := List.mem_append_right _ (List.mem_append_right _ (List.mem_append_right _ (List.mem_append_right _ (List.mem_append_right _ (List.mem_append_right _ (List.mem_append_right _ (List.mem_append_right _ (List.mem_append_left _ h))))))))
theorem q_G_u9_m {w : Cond} (h : w ∈ q_G_u9) : w ∈ q_GL := List.mem_append_right _ (List.mem_append_right _ (List.mem_append_right _ (List.mem_append_right _ (List.mem_append_right _ (List.mem_append_right _ (List.mem_append_right _ (List.mem_append_right _ (List.mem_append_right _ (List.mem_append_left _ h)))))))))
theorem q_G_f_m {w : Cond} (h : w ∈ q_G_f) : w ∈ q_GL := List.mem_append_right _ (List.mem_append_right _ (List.mem_append_right _ (List.mem_append_right _ (List.mem_append_right _ (List.mem_append_right _ (List.mem_append_right _ (List.mem_append_right _ (List.mem_append_right _ (List.mem_append_right _ (List.mem_append_left _ h))))))))))
theorem q_G_c_m {w : Cond} (h : w ∈ q_G_c) : w ∈ q_GL := List.mem_append_right _ (List.mem_append_right _ (List.mem_append_right _ (List.mem_append_right _ (List.mem_append_right _ (List.mem_append_right _ (List.mem_append_right _ (List.mem_append_right _ (List.mem_append_right _ (List.mem_append_right _ (List.mem_append_right _ (List.mem_append_left _ h)))))))))))
theorem q_G_x_m {w : Cond} (h : w ∈ q_G_x) : w ∈ q_GL := List.mem_append_right _ (List.mem_append_right _ (List.mem_append_right _ (List.mem_append_right _ (List.mem_append_right _ (List.mem_append_right _ (List.mem_append_right _ (List.mem_append_right _ (List.mem_append_right _ (List.mem_append_right _ (List.mem_append_right _ (List.mem_append_right _ (List.mem_append_left _ h))))))))))))
theorem q_G_i_m {w : Cond} (h : w ∈ q_G_i) : w ∈ q_GL := List.mem_append_right _ (List.mem_append_right _ (List.mem_append_right _ (List.mem_append_right _ (List.mem_append_right _ (List.mem_append_right _ (List.mem_append_right _ (List.mem_append_right _ (List.mem_append_right _ (List.mem_append_right _ (List.mem_append_right _ (List.mem_append_right _ (List.mem_append_right _ (List.mem_append_left _ h)))))))))))))
theorem q_G_t_m {w : Cond} (h : w ∈ q_G_t) : w ∈ q_GL := List.mem_append_right _ (List.mem_append_right _ (List.mem_append_right _ (List.mem_append_right _ (List.mem_append_right _ (List.mem_append_right _ (List.mem_append_right _ (List.mem_append_right _ (List.mem_append_right _ (List.mem_append_right _ (List.mem_append_right _ (List.mem_append_right _ (List.mem_append_right _ (List.mem_append_right _ (List.mem_append_left _ h))))))))))))))
theorem q_G_e_m {w : Cond} (h : w ∈ q_G_e) : w ∈ q_GL := List.mem_append_right _ (List.mem_append_right _ (List.mem_append_right _ (List.mem_append_right _ (List.mem_append_right _ (List.mem_append_right _ (List.mem_append_right _ (List.mem_append_right _ (List.mem_append_right _ (List.mem_append_right _ (List.mem_append_right _ (List.mem_append_right _ (List.mem_append_right _ (List.mem_append_right _ (List.mem_append_right _ (List.mem_append_left _ h)))))))))))))))
theorem q_G_a_m {w : Cond} (h : w ∈ q_G_a) : w ∈ q_GL := List.mem_append_right _ (List.mem_append_right _ (List.mem_append_right _ (List.mem_append_right _ (List.mem_append_right _ (List.mem_append_right _ (List.mem_append_right _ (List.mem_append_right _ (List.mem_append_right _ (List.mem_append_right _ (List.mem_append_right _ (List.mem_append_right _ (List.mem_append_right _ (List.mem_append_right _ (List.mem_append_right _ (List.mem_append_right _ (List.mem_append_left _ h))))))))))))))))
theorem q_G_m0_m {w : Cond} (h : w ∈ q_G_m0) : w ∈ q_GL := List.mem_append_right _ (List.mem_append_right _ (List.mem_append_right _ (List.mem_append_right _ (List.mem_append_right _ (List.mem_append_right _ (List.mem_append_right _ (List.mem_append_right _ (List.mem_append_right _ (List.mem_append_right _ (List.mem_append_right _ (List.mem_append_right _ (List.mem_append_right _ (List.mem_append_right _ (List.mem_append_right _ (List.mem_append_right _ (List.mem_append_right _ (List.mem_append_left _ h)))))))))))))))))
theorem q_G_m1_m {w : Cond} (h : w ∈ q_G_m1) : w ∈ q_GL := List.mem_append_right _ (List.mem_append_right _ (List.mem_append_right _ (List.mem_append_right _ (List.mem_append_right _ (List.mem_append_right _ (List.mem_append_right _ (List.mem_append_right _ (List.mem_append_right _ (List.mem_append_right _ (List.mem_append_right _ (List.mem_append_right _ (List.mem_append_right _ (List.mem_append_right _ (List.mem_append_right _ (List.mem_append_right _ (List.mem_append_right _ (List.mem_append_right _ (List.mem_append_left _ h))))))))))))))))))
theorem q_G_m2_m {w : Cond} (h : w ∈ q_G_m2) : w ∈ q_GL := List.mem_append_right _ (List.mem_append_right _ (List.mem_append_right _ (List.mem_append_right _ (List.mem_append_right _ (List.mem_append_right _ (List.mem_append_right _ (List.mem_append_right _ (List.mem_append_right _ (List.mem_append_right _ (List.mem_append_right _ (List.mem_append_right _ (List.mem_append_right _ (List.mem_append_right _ (List.mem_append_right _ (List.mem_append_right _ (List.mem_append_right _ (List.mem_append_right _ (List.mem_append_right _ (List.mem_append_left _ h)))))))))))))))))))
theorem q_G_m3_m {w : Cond} (h : w ∈ q_G_m3) : w ∈ q_GL := List.mem_append_right _ (List.mem_append_right _ (List.mem_append_right _ (List.mem_append_right _ (List.mem_append_right _ (List.mem_append_right _ (List.mem_append_right _ (List.mem_append_right _ (List.mem_append_right _ (List.mem_append_right _ (List.mem_append_right _ (List.mem_append_right _ (List.mem_append_right _ (List.mem_append_right _ (List.mem_append_right _ (List.mem_append_right _ (List.mem_append_right _ (List.mem_append_right _ (List.mem_append_right _ (List.mem_append_right _ (List.mem_append_left _ h))))))))))))))))))))
theorem q_G_m4_m {w : Cond} (h : w ∈ q_G_m4) : w ∈ q_GL := List.mem_append_right _ (List.mem_append_right _ (List.mem_append_right _ (List.mem_append_right _ (List.mem_append_right _ (List.mem_append_right _ (List.mem_append_right _ (List.mem_append_right _ (List.mem_append_right _ (List.mem_append_right _ (List.mem_append_right _ (List.mem_append_right _ (List.mem_append_right _ (List.mem_append_right _ (List.mem_append_right _ (List.mem_append_right _ (List.mem_append_right _ (List.mem_append_right _ (List.mem_append_right _ (List.mem_append_right _ (List.mem_append_right _ (List.mem_append_left _ h)))))))))))))))))))))
theorem q_G_vi_m {w : Cond} (h : w ∈ q_G_vi) : w ∈ q_GL := List.mem_append_right _ (List.mem_append_right _ (List.mem_append_right _ (List.mem_append_right _ (List.mem_append_right _ (List.mem_append_right _ (List.mem_append_right _ (List.mem_append_right _ (List.mem_append_right _ (List.mem_append_right _ (List.mem_append_right _ (List.mem_append_right _ (List.mem_append_right _ (List.mem_append_right _ (List.mem_append_right _ (List.mem_append_right _ (List.mem_append_right _ (List.mem_append_right _ (List.mem_append_right _ (List.mem_append_right _ (List.mem_append_right _ (List.mem_append_right _ (List.mem_append_left _ h))))))))))))))))))))))
theorem q_G_vs_m {w : Cond} (h : w ∈ q_G_vs) : w ∈ q_GL := List.mem_append_right _ (List.mem_append_right _ (List.mem_append_right _ (List.mem_append_right _ (List.mem_append_right _ (List.mem_append_right _ (List.mem_append_right _ (List.mem_append_right _ (List.mem_append_right _ (List.mem_append_right _ (List.mem_append_right _ (List.mem_append_right _ (List.mem_append_right _ (List.mem_append_right _ (List.mem_append_right _ (List.mem_append_right _ (List.mem_append_right _ (List.mem_append_right _ (List.mem_append_right _ (List.mem_append_right _ (List.mem_append_right _ (List.mem_append_right _ (List.mem_append_right _ (List.mem_append_left _ h)))))))))))))))))))))))
theorem q_G_ss_m {w : Cond} (h : w ∈ q_G_ss) : w ∈ q_GL := List.mem_append_right _ (List.mem_append_right _ (List.mem_append_right _ (List.mem_append_right _ (List.mem_append_right _ (List.mem_append_right _ (List.mem_append_right _ (List.mem_append_right _ (List.mem_append_right _ (List.mem_append_right _ (List.mem_append_right _ (List.mem_append_right _ (List.mem_append_right _ (List.mem_append_right _ (List.mem_append_right _ (List.mem_append_right _ (List.mem_append_right _ (List.mem_append_right _ (List.mem_append_right _ (List.mem_append_right _ (List.mem_append_right _ (List.mem_append_right _ (List.mem_append_right _ (List.mem_append_right _ (List.mem_append_left _ h))))))))))))))))))))))))
theorem q_G_ii_m {w : Cond} (h : w ∈ q_G_ii) : w ∈ q_GL := List.mem_append_right _ (List.mem_append_right _ (List.mem_append_right _ (List.mem_append_right _ (List.mem_append_right _ (List.mem_append_right _ (List.mem_append_right _ (List.mem_append_right _ (List.mem_append_right _ (List.mem_append_right _ (List.mem_append_right _ (List.mem_append_right _ (List.mem_append_right _ (List.mem_append_right _ (List.mem_append_right _ (List.mem_append_right _ (List.mem_append_right _ (List.mem_append_right _ (List.mem_append_right _ (List.mem_append_right _ (List.mem_append_right _ (List.mem_append_right _ (List.mem_append_right _ (List.mem_append_right _ (List.mem_append_right _ (List.mem_append_left _ h)))))))))))))))))))))))))
theorem q_G_ml_m {w : Cond} (h : w ∈ q_G_ml) : w ∈ q_GL := List.mem_append_right _ (List.mem_append_right _ (List.mem_append_right _ (List.mem_append_right _ (List.mem_append_right _ (List.mem_append_right _ (List.mem_append_right _ (List.mem_append_right _ (List.mem_append_right _ (List.mem_append_right _ (List.mem_append_right _ (List.mem_append_right _ (List.mem_append_right _ (List.mem_append_right _ (List.mem_append_right _ (List.mem_append_right _ (List.mem_append_right _ (List.mem_append_right _ (List.mem_append_right _ (List.mem_append_right _ (List.mem_append_right _ (List.mem_append_right _ (List.mem_append_right _ (List.mem_append_right _ (List.mem_append_right _ (List.mem_append_right _ (List.mem_append_left _ h))))))))))))))))))))))))))
theorem q_G_ol_m {w : Cond} (h : w ∈ q_G_ol) : w ∈ q_GL := List.mem_append_right _ (List.mem_append_right _ (List.mem_append_right _ (List.mem_append_right _ (List.mem_append_right _ (List.mem_append_right _ (List.mem_append_right _ (List.mem_append_right _ (List.mem_append_right _ (List.mem_append_right _ (List.mem_append_right _ (List.mem_append_right _ (List.mem_append_right _ (List.mem_append_right _ (List.mem_append_right _ (List.mem_append_right _ (List.mem_append_right _ (List.mem_append_right _ (List.mem_append_right _ (List.mem_append_right _ (List.mem_append_right _ (List.mem_append_right _ (List.mem_append_right _ (List.mem_append_right _ (List.mem_append_right _ (List.mem_append_right _ (List.mem_append_right _ (List.mem_append_left _ h)))))))))))))))))))))))))))
theorem q_G_oc_m {w : Cond} (h : w ∈ q_G_oc) : w ∈ q_GL := List.mem_append_right _ (List.mem_append_right _ (List.mem_append_right _ (List.mem_append_right _ (List.mem_append_right _ (List.mem_append_right _ (List.mem_append_right _ (List.mem_append_right _ (List.mem_append_right _ (List.mem_append_right _ (List.mem_append_right _ (List.mem_append_right _ (List.mem_append_right _ (List.mem_append_right _ (List.mem_append_right _ (List.mem_append_right _ (List.mem_append_right _ (List.mem_append_right _ (List.mem_append_right _ (List.mem_append_right _ (List.mem_append_right _ (List.mem_append_right _ (List.mem_append_right _ (List.mem_append_right _ (List.mem_append_right _ (List.mem_append_right _ (List.mem_append_right _ (List.mem_append_right _ (List.mem_append_left _ h))))))))))))))))))))))))))))
theorem q_G_mm_m {w : Cond} (h : w ∈ q_G_mm) : w ∈ q_GL := List.mem_append_right _ (List.mem_append_right _ (List.mem_append_right _ (List.mem_append_right _ (List.mem_append_right _ (List.mem_append_right _ (List.mem_append_right _ (List.mem_append_right _ (List.mem_append_right _ (List.mem_append_right _ (List.mem_append_right _ (List.mem_append_right _ (List.mem_append_right _ (List.mem_append_right _ (List.mem_append_right _ (List.mem_append_right _ (List.mem_append_right _ (List.mem_append_right _ (List.mem_append_right _ (List.mem_append_right _ (List.mem_append_right _ (List.mem_append_right _ (List.mem_append_right _ (List.mem_append_right _ (List.mem_append_right _ (List.mem_append_right _ (List.mem_append_right _ (List.mem_append_right _ (List.mem_append_right _ (List.mem_append_left _ h)))))))))))))))))))))))))))))
theorem q_G_mc_m {w : Cond} (h : w ∈ q_G_mc) : w ∈ q_GL := List.mem_append_right _ (List.mem_append_right _ (List.mem_append_right _ (List.mem_append_right _ (List.mem_append_right _ (List.mem_append_right _ (List.mem_append_right _ (List.mem_append_right _ (List.mem_append_right _ (List.mem_append_right _ (List.mem_append_right _ (List.mem_append_right _ (List.mem_append_right _ (List.mem_append_right _ (List.mem_append_right _ (List.mem_append_right _ (List.mem_append_right _ (List.mem_append_right _ (List.mem_append_right _ (List.mem_append_right _ (List.mem_append_right _ (List.mem_append_right _ (List.mem_append_right _ (List.mem_append_right _ (List.mem_append_right _ (List.mem_append_right _ (List.mem_append_right _ (List.mem_append_right _ (List.mem_append_right _ (List.mem_append_right _ (List.mem_append_left _ h))))))))))))))))))))))))))))))
theorem q_G_ci_m {w : Cond} (h : w ∈ q_G_ci) : w ∈ q_GL := List.mem_append_right _ (List.mem_append_right _ (List.mem_append_right _ (List.mem_append_right _ (List.mem_append_right _ (List.mem_append_right _ (List.mem_append_right _ (List.mem_append_right _ (List.mem_append_right _ (List.mem_append_right _ (List.mem_append_right _ (List.mem_append_right _ (List.mem_append_right _ (List.mem_append_right _ (List.mem_append_right _ (List.mem_append_right _ (List.mem_append_right _ (List.mem_append_right _ (List.mem_append_right _ (List.mem_append_right _ (List.mem_append_right _ (List.mem_append_right _ (List.mem_append_right _ (List.mem_append_right _ (List.mem_append_right _ (List.mem_append_right _ (List.mem_append_right _ (List.mem_append_right _ (List.mem_append_right _ (List.mem_append_right _ (List.mem_append_right _ (List.mem_append_left _ h)))))))))))))))))))))))))))))))
theorem q_G_cj_m {w : Cond} (h : w ∈ q_G_cj) : w ∈ q_GL := List.mem_append_right _ (List.mem_append_right _ (List.mem_append_right _ (List.mem_append_right _ (List.mem_append_right _ (List.mem_append_right _ (List.mem_append_right _ (List.mem_append_right _ (List.mem_append_right _ (List.mem_append_right _ (List.mem_append_right _ (List.mem_append_right _ (List.mem_append_right _ (List.mem_append_right _ (List.mem_append_right _ (List.mem_append_right _ (List.mem_append_right _ (List.mem_append_right _ (List.mem_append_right _ (List.mem_append_right _ (List.mem_append_right _ (List.mem_append_right _ (List.mem_append_right _ (List.mem_append_right _ (List.mem_append_right _ (List.mem_append_right _ (List.mem_append_right _ (List.mem_append_right _ (List.mem_append_right _ (List.mem_append_right _ (List.mem_append_right _ (List.mem_append_right _ (h))))))))))))))))))))))))))))))))
