/-! Part 09: names, links, the words of the tables that are used, each by its place. Printed by wip/tools/gen_links.py. -/
def q_on (n : Nat) : String := match n with
  | 0 => "StepperTable$Account"
  | 1 => "StepperTable$Axis"
  | 2 => "StepperTable$Bytes"
  | 3 => "StepperTable$History"
  | 4 => "StepperTable$Plan"
  | 5 => "StepperTable$Setup"
  | 6 => "StepperTable$Table"
  | 7 => "StepperTable$Targets"
  | 8 => "StepperTable"
  | 9 => "StepperTableModel"
  | _ => "StepperTableLaw"
def q_ex (n : Nat) : String := match n with
  | 0 => "java/lang/IllegalArgumentException"
  | 1 => "java/lang/IndexOutOfBoundsException"
  | 2 => "java/lang/IllegalStateException"
  | _ => "java/util/NoSuchElementException"
def q_CF0 : u_T := fun k => match k with
  | 0 => ("StepperTable$Account", "forward", "I", false)
  | 1 => ("StepperTable$Account", "backward", "I", false)
  | 2 => ("StepperTable$Account", "lost", "I", false)
  | 3 => ("StepperTable$Account", "compensations", "I", false)
  | 4 => ("StepperTable$Account", "homings", "I", false)
  | 5 => ("StepperTable$Account", "failures", "I", false)
  | _ => ("StepperTable$Account", "reversals", "I", false)
def q_CT0 : Nat → FieldType := fun k => match k with
  | 0 => .int
  | 1 => .int
  | 2 => .int
  | 3 => .int
  | 4 => .int
  | 5 => .int
  | _ => .int
def q_CF1 : u_T := fun k => match k with
  | 0 => ("StepperTable$Axis", "length", "I", false)
  | 1 => ("StepperTable$Axis", "backlash", "I", false)
  | 2 => ("StepperTable$Axis", "top", "I", false)
  | 3 => ("StepperTable$Axis", "acceleration", "I", false)
  | 4 => ("StepperTable$Axis", "switchPosition", "I", false)
  | 5 => ("StepperTable$Axis", "hysteresis", "I", false)
  | 6 => ("StepperTable$Axis", "truePosition", "I", false)
  | 7 => ("StepperTable$Axis", "slack", "I", false)
  | 8 => ("StepperTable$Axis", "direction", "I", false)
  | 9 => ("StepperTable$Axis", "stuck", "I", false)
  | 10 => ("StepperTable$Axis", "closed", "Z", false)
  | 11 => ("StepperTable$Axis", "homed", "Z", false)
  | 12 => ("StepperTable$Axis", "coordinate", "I", false)
  | 13 => ("StepperTable$Axis", "zero", "I", false)
  | _ => ("StepperTable$Axis", "account", "LStepperTable$Account;", true)
def q_CT1 : Nat → FieldType := fun k => match k with
  | 0 => .int
  | 1 => .int
  | 2 => .int
  | 3 => .int
  | 4 => .int
  | 5 => .int
  | 6 => .int
  | 7 => .int
  | 8 => .int
  | 9 => .int
  | 10 => .boolean
  | 11 => .boolean
  | 12 => .int
  | 13 => .int
  | _ => .object "StepperTable$Account"
def q_CF2 : u_T := fun k => match k with
  | 0 => ("StepperTable$Bytes", "row", "[B", true)
  | _ => ("StepperTable$Bytes", "length", "I", false)
def q_CT2 : Nat → FieldType := fun k => match k with
  | 0 => .array .byte
  | _ => .int
def q_CF3 : u_T := fun k => match k with
  | 0 => ("StepperTable$History", "ring", "[LStepperTable$Table;", true)
  | 1 => ("StepperTable$History", "size", "I", false)
  | _ => ("StepperTable$History", "next", "I", false)
def q_CT3 : Nat → FieldType := fun k => match k with
  | 0 => .array (.object "StepperTable$Table")
  | 1 => .int
  | _ => .int
def q_CF4 : u_T := fun k => match k with
  | 0 => ("StepperTable$Plan", "begins", "[I", true)
  | 1 => ("StepperTable$Plan", "distances", "[I", true)
  | 2 => ("StepperTable$Plan", "turnings", "[I", true)
  | 3 => ("StepperTable$Plan", "leads", "[I", true)
  | 4 => ("StepperTable$Plan", "cruises", "[I", true)
  | 5 => ("StepperTable$Plan", "gains", "[I", true)
  | 6 => ("StepperTable$Plan", "straights", "[I", true)
  | 7 => ("StepperTable$Plan", "compensations", "[I", true)
  | 8 => ("StepperTable$Plan", "speeds", "[I", true)
  | 9 => ("StepperTable$Plan", "size", "I", false)
  | _ => ("StepperTable$Plan", "start", "I", false)
def q_CT4 : Nat → FieldType := fun k => match k with
  | 0 => .array .int
  | 1 => .array .int
  | 2 => .array .int
  | 3 => .array .int
  | 4 => .array .int
  | 5 => .array .int
  | 6 => .array .int
  | 7 => .array .int
  | 8 => .array .int
  | 9 => .int
  | _ => .int
def q_CF5 : u_T := fun k => match k with
  | 0 => ("StepperTable$Setup", "numbers", "[I", true)
  | 1 => ("StepperTable$Setup", "begins", "[I", true)
  | 2 => ("StepperTable$Setup", "start", "I", false)
  | 3 => ("StepperTable$Setup", "seen", "I", false)
  | 4 => ("StepperTable$Setup", "code", "I", false)
  | 5 => ("StepperTable$Setup", "offset", "I", false)
  | _ => ("StepperTable$Setup", "place", "I", false)
def q_CT5 : Nat → FieldType := fun k => match k with
  | 0 => .array .int
  | 1 => .array .int
  | 2 => .int
  | 3 => .int
  | 4 => .int
  | 5 => .int
  | _ => .int
def q_CF6 : u_T := fun k => match k with
  | 0 => ("StepperTable$Table", "x", "LStepperTable$Axis;", true)
  | 1 => ("StepperTable$Table", "y", "LStepperTable$Axis;", true)
  | 2 => ("StepperTable$Table", "z", "LStepperTable$Axis;", true)
  | 3 => ("StepperTable$Table", "targets", "LStepperTable$Targets;", true)
  | 4 => ("StepperTable$Table", "start", "I", false)
  | 5 => ("StepperTable$Table", "compensation", "Z", false)
  | 6 => ("StepperTable$Table", "detection", "Z", false)
  | 7 => ("StepperTable$Table", "alarm", "I", false)
  | 8 => ("StepperTable$Table", "passed", "J", false)
  | 9 => ("StepperTable$Table", "moveStepsTime", "J", false)
  | _ => ("StepperTable$Table", "moveSteps", "J", false)
def q_CT6 : Nat → FieldType := fun k => match k with
  | 0 => .object "StepperTable$Axis"
  | 1 => .object "StepperTable$Axis"
  | 2 => .object "StepperTable$Axis"
  | 3 => .object "StepperTable$Targets"
  | 4 => .int
  | 5 => .boolean
  | 6 => .boolean
  | 7 => .int
  | 8 => .long
  | 9 => .long
  | _ => .long
def q_CF7 : u_T := fun k => match k with
  | 0 => ("StepperTable$Targets", "row", "[I", true)
  | _ => ("StepperTable$Targets", "size", "I", false)
def q_CT7 : Nat → FieldType := fun k => match k with
  | 0 => .array .int
  | _ => .int
def q_CF8 : u_T := fun k => match k with
  | 0 => ("StepperTable", "input", "LStepperTable$Bytes;", true)
  | 1 => ("StepperTable", "setup", "LStepperTable$Setup;", true)
  | 2 => ("StepperTable", "table", "LStepperTable$Table;", true)
  | 3 => ("StepperTable", "saved", "LStepperTable$Table;", true)
  | 4 => ("StepperTable", "scratch", "LStepperTable$Table;", true)
  | 5 => ("StepperTable", "history", "LStepperTable$History;", true)
  | 6 => ("StepperTable", "plan", "LStepperTable$Plan;", true)
  | 7 => ("StepperTable", "path", "LStepperTable$Targets;", true)
  | 8 => ("StepperTable", "output", "LStepperTable$Bytes;", true)
  | _ => ("StepperTable", "hasSaved", "Z", false)
def q_CT8 : Nat → FieldType := fun k => match k with
  | 0 => .object "StepperTable$Bytes"
  | 1 => .object "StepperTable$Setup"
  | 2 => .object "StepperTable$Table"
  | 3 => .object "StepperTable$Table"
  | 4 => .object "StepperTable$Table"
  | 5 => .object "StepperTable$History"
  | 6 => .object "StepperTable$Plan"
  | 7 => .object "StepperTable$Targets"
  | 8 => .object "StepperTable$Bytes"
  | _ => .boolean
def q_CF9 : u_T := fun k => match k with
  | 0 => ("StepperTableModel", "w", "[J", true)
  | 1 => ("StepperTableModel", "wKept", "[J", true)
  | 2 => ("StepperTableModel", "aside", "[J", true)
  | 3 => ("StepperTableModel", "savedRow", "[J", true)
  | 4 => ("StepperTableModel", "past", "[J", true)
  | 5 => ("StepperTableModel", "pastMany", "I", false)
  | 6 => ("StepperTableModel", "isSaved", "Z", false)
  | 7 => ("StepperTableModel", "thrown", "I", false)
  | 8 => ("StepperTableModel", "distance", "[I", true)
  | 9 => ("StepperTableModel", "lead", "[I", true)
  | 10 => ("StepperTableModel", "cruise", "[I", true)
  | 11 => ("StepperTableModel", "gain", "[I", true)
  | 12 => ("StepperTableModel", "between", "[I", true)
  | 13 => ("StepperTableModel", "input", "[I", true)
  | 14 => ("StepperTableModel", "inputMany", "I", false)
  | 15 => ("StepperTableModel", "lastError", "I", false)
  | 16 => ("StepperTableModel", "lastOffset", "I", false)
  | 17 => ("StepperTableModel", "error", "I", false)
  | 18 => ("StepperTableModel", "offset", "I", false)
  | 19 => ("StepperTableModel", "nextByte", "I", false)
  | 20 => ("StepperTableModel", "begin", "I", false)
  | 21 => ("StepperTableModel", "value", "I", false)
  | 22 => ("StepperTableModel", "token", "I", false)
  | 23 => ("StepperTableModel", "once", "I", false)
  | 24 => ("StepperTableModel", "clock", "J", false)
  | 25 => ("StepperTableModel", "facing", "[I", true)
  | 26 => ("StepperTableModel", "output", "[I", true)
  | _ => ("StepperTableModel", "outputMany", "I", false)
def q_CT9 : Nat → FieldType := fun k => match k with
  | 0 => .array .long
  | 1 => .array .long
  | 2 => .array .long
  | 3 => .array .long
  | 4 => .array .long
  | 5 => .int
  | 6 => .boolean
  | 7 => .int
  | 8 => .array .int
  | 9 => .array .int
  | 10 => .array .int
  | 11 => .array .int
  | 12 => .array .int
  | 13 => .array .int
  | 14 => .int
  | 15 => .int
  | 16 => .int
  | 17 => .int
  | 18 => .int
  | 19 => .int
  | 20 => .int
  | 21 => .int
  | 22 => .int
  | 23 => .int
  | 24 => .long
  | 25 => .array .int
  | 26 => .array .int
  | _ => .int
def q_cF (n : Nat) : u_T := match n with
  | 0 => q_CF0
  | 1 => q_CF1
  | 2 => q_CF2
  | 3 => q_CF3
  | 4 => q_CF4
  | 5 => q_CF5
  | 6 => q_CF6
  | 7 => q_CF7
  | 8 => q_CF8
  | _ => q_CF9
def q_cT (n : Nat) : Nat → FieldType := match n with
  | 0 => q_CT0
  | 1 => q_CT1
  | 2 => q_CT2
  | 3 => q_CT3
  | 4 => q_CT4
  | 5 => q_CT5
  | 6 => q_CT6
  | 7 => q_CT7
  | 8 => q_CT8
  | _ => q_CT9
def q_cN (n : Nat) : Nat := match n with
  | 0 => 7
  | 1 => 15
  | 2 => 2
  | 3 => 3
  | 4 => 11
  | 5 => 7
  | 6 => 11
  | 7 => 2
  | 8 => 10
  | _ => 28
def q_cl : List vw_C := [(q_on 0, q_CF0, 7), (q_on 1, q_CF1, 15), (q_on 2, q_CF2, 2), (q_on 3, q_CF3, 3), (q_on 4, q_CF4, 11), (q_on 5, q_CF5, 7), (q_on 6, q_CF6, 11), (q_on 7, q_CF7, 2), (q_on 8, q_CF8, 10), (q_on 9, q_CF9, 28)]
theorem q_10 {P : Nat → Prop} (h0 : P 0) (h1 : P 1) (h2 : P 2) (h3 : P 3) (h4 : P 4) (h5 : P 5) (h6 : P 6) (h7 : P 7) (h8 : P 8) (h9 : P 9) : ∀ n, n < 10 → P n := by
  intro n hn
  match n, hn with
  | 0, _ => exact h0
  | 1, _ => exact h1
  | 2, _ => exact h2
  | 3, _ => exact h3
  | 4, _ => exact h4
  | 5, _ => exact h5
  | 6, _ => exact h6
  | 7, _ => exact h7
  | 8, _ => exact h8
  | 9, _ => exact h9
  | n + 10, h => omega
theorem q_cl_g : ∀ n, n < 10 → q_cl[n]? = some (q_on n, q_cF n, q_cN n) := q_10 rfl rfl rfl rfl rfl rfl rfl rfl rfl rfl
theorem q_cT_ok : ∀ n, n < 10 → ∀ k, k < q_cN n → parseFieldDescriptor (q_cF n k).2.2.1 = some (q_cT n k) := q_10 (by decide +kernel) (by decide +kernel) (by decide +kernel) (by decide +kernel) (by decide +kernel) (by decide +kernel) (by decide +kernel) (by decide +kernel) (by decide +kernel) (by decide +kernel)
theorem q_cF_ne : ∀ n, n < 10 → ∀ a, a < q_cN n → ∀ b, b < q_cN n → a ≠ b → (q_cF n a).2.1 ≠ (q_cF n b).2.1 := q_10 (by decide +kernel) (by decide +kernel) (by decide +kernel) (by decide +kernel) (by decide +kernel) (by decide +kernel) (by decide +kernel) (by decide +kernel) (by decide +kernel) (by decide +kernel)
theorem q_cF_own : ∀ n, n < 10 → ∀ k, k < q_cN n → (q_cF n k).1 = q_on n := q_10 (by decide +kernel) (by decide +kernel) (by decide +kernel) (by decide +kernel) (by decide +kernel) (by decide +kernel) (by decide +kernel) (by decide +kernel) (by decide +kernel) (by decide +kernel)
def q_dfR (n : Nat) : List Value := match n with
  | 0 => [.int (Int32.ofInt 0), .int (Int32.ofInt 0), .int (Int32.ofInt 0), .int (Int32.ofInt 0), .int (Int32.ofInt 0), .int (Int32.ofInt 0), .int (Int32.ofInt 0)]
  | 1 => [.int (Int32.ofInt 0), .int (Int32.ofInt 0), .int (Int32.ofInt 0), .int (Int32.ofInt 0), .int (Int32.ofInt 0), .int (Int32.ofInt 0), .int (Int32.ofInt 0), .int (Int32.ofInt 0), .int (Int32.ofInt 0), .int (Int32.ofInt 0), .int (Int32.ofInt 0), .int (Int32.ofInt 0), .int (Int32.ofInt 0), .int (Int32.ofInt 0), .null]
  | 2 => [.null, .int (Int32.ofInt 0)]
  | 3 => [.null, .int (Int32.ofInt 0), .int (Int32.ofInt 0)]
  | 4 => [.null, .null, .null, .null, .null, .null, .null, .null, .null, .int (Int32.ofInt 0), .int (Int32.ofInt 0)]
  | 5 => [.null, .null, .int (Int32.ofInt 0), .int (Int32.ofInt 0), .int (Int32.ofInt 0), .int (Int32.ofInt 0), .int (Int32.ofInt 0)]
  | 6 => [.null, .null, .null, .null, .int (Int32.ofInt 0), .int (Int32.ofInt 0), .int (Int32.ofInt 0), .int (Int32.ofInt 0), .long (Int64.ofInt 0), .long (Int64.ofInt 0), .long (Int64.ofInt 0)]
  | 7 => [.null, .int (Int32.ofInt 0)]
  | 8 => [.null, .null, .null, .null, .null, .null, .null, .null, .null, .int (Int32.ofInt 0)]
  | _ => [.null, .null, .null, .null, .null, .int (Int32.ofInt 0), .int (Int32.ofInt 0), .int (Int32.ofInt 0), .null, .null, .null, .null, .null, .null, .int (Int32.ofInt 0), .int (Int32.ofInt 0), .int (Int32.ofInt 0), .int (Int32.ofInt 0), .int (Int32.ofInt 0), .int (Int32.ofInt 0), .int (Int32.ofInt 0), .int (Int32.ofInt 0), .int (Int32.ofInt 0), .int (Int32.ofInt 0), .long (Int64.ofInt 0), .null, .null, .int (Int32.ofInt 0)]
theorem q_dfR_ok : ∀ n, n < 10 → ∀ j, j < q_cN n → defaultValue (q_cT n j) = vp_V (q_dfR n) j := q_10 (by decide +kernel) (by decide +kernel) (by decide +kernel) (by decide +kernel) (by decide +kernel) (by decide +kernel) (by decide +kernel) (by decide +kernel) (by decide +kernel) (by decide +kernel)
abbrev q_RIt := MethodName × ByteArray × Nat × Option FieldType × List (Nat × Nat × Nat × Nat)
def q_RI0 : List q_RIt := [(⟨q_on 10, "account", "(LStepperTable;II[J)I"⟩, method_41_code, 5, (some .int), [(0, 10, 13, 19), (0, 10, 17, 13)]),
  (⟨q_on 10, "axis", "(LStepperTable;II[J)I"⟩, method_4_code, 5, (some .int), [(0, 10, 13, 19), (0, 10, 17, 13)]),
  (⟨q_on 10, "bestStart", "(LStepperTable;[J)I"⟩, method_39_code, 3, (some .int), [(0, 8, 11, 47)]),
  (⟨q_on 10, "bound", "(LStepperTable;IZ[J)I"⟩, method_27_code, 5, (some .int), [(0, 10, 13, 19), (0, 10, 17, 24)]),
  (⟨q_on 10, "coordinate", "(LStepperTable;I[J)I"⟩, method_5_code, 4, (some .int), [(0, 9, 12, 19), (0, 9, 15, 24)]),
  (⟨q_on 10, "count", "(LStepperTable;I[J)I"⟩, method_3_code, 4, (some .int), [(0, 9, 12, 13)]),
  (⟨q_on 10, "deviation", "(LStepperTable;I[D)I"⟩, method_19_code, 4, (some .int), [(0, 9, 12, 19)]),
  (⟨q_on 10, "dropTarget", "(LStepperTable;I[J)I"⟩, method_22_code, 4, (some .int), [(0, 9, 12, 19), (0, 9, 15, 24)]),
  (⟨q_on 10, "error", "(LStepperTable;I[J)I"⟩, method_6_code, 4, (some .int), [(0, 9, 12, 19), (0, 9, 15, 24)]),
  (⟨q_on 10, "home", "(LStepperTable;I[J)I"⟩, method_8_code, 4, (some .int), [(0, 9, 12, 19), (0, 9, 15, 24)]),
  (⟨q_on 10, "homeAll", "(LStepperTable;[J)I"⟩, method_20_code, 3, (some .int), [(0, 8, 11, 24)]),
  (⟨q_on 10, "insert", "(LStepperTable;IIII[J)I"⟩, method_21_code, 7, (some .int), [(0, 14, 17, 13), (0, 14, 21, 24)]),
  (⟨q_on 10, "jog", "(LStepperTable;II[J)I"⟩, method_9_code, 5, (some .int), [(0, 10, 13, 19), (0, 10, 17, 13), (0, 10, 21, 24)]),
  (⟨q_on 10, "lastsUntil", "(LStepperTable;I[J)I"⟩, method_29_code, 4, (some .int), [(0, 8, 11, 19)]),
  (⟨q_on 10, "lineLength", "(LStepperTable;I[D)I"⟩, method_32_code, 4, (some .int), [(0, 8, 11, 19)]),
  (⟨q_on 10, "lostShare", "(LStepperTable;I[D)I"⟩, method_42_code, 4, (some .int), [(0, 9, 12, 19)]),
  (⟨q_on 10, "meanSpeed", "(LStepperTable;I[D)I"⟩, method_33_code, 4, (some .int), [(0, 8, 11, 19)]),
  (⟨q_on 10, "move", "(LStepperTable;II[J)I"⟩, method_16_code, 5, (some .int), [(0, 10, 13, 19), (0, 10, 17, 13)]),
  (⟨q_on 10, "nearestOrder", "(LStepperTable;I[J)I"⟩, method_28_code, 4, (some .int), [(0, 9, 12, 47)]),
  (⟨q_on 10, "pointAt", "(LStepperTable;III[J)I"⟩, method_24_code, 6, (some .int), [(0, 12, 15, 19), (0, 12, 19, 13)]),
  (⟨q_on 10, "queue", "(LStepperTable;III[J)I"⟩, method_10_code, 6, (some .int), [(0, 12, 15, 13), (0, 12, 19, 24)]),
  (⟨q_on 10, "rampSteps", "(LStepperTable;IZ[J)I"⟩, method_25_code, 5, (some .int), [(0, 10, 13, 19)]),
  (⟨q_on 10, "readsClosed", "(LStepperTable;I[J)I"⟩, method_7_code, 4, (some .int), [(0, 16, 19, 19)]),
  (⟨q_on 10, "restoreState", "(LStepperTable;[J)I"⟩, method_43_code, 3, (some .int), [(0, 8, 11, 24)]),
  (⟨q_on 10, "run", "(LStepperTable;I[J)I"⟩, method_12_code, 4, (some .int), [(0, 9, 12, 13), (0, 9, 15, 47)]),
  (⟨q_on 10, "setStart", "(LStepperTable;I[J)I"⟩, method_14_code, 4, (some .int), [(0, 9, 12, 13)]),
  (⟨q_on 10, "setStuck", "(LStepperTable;II[J)I"⟩, method_13_code, 5, (some .int), [(0, 10, 13, 19), (0, 10, 17, 13)]),
  (⟨q_on 10, "slackLeft", "(LStepperTable;IZ[J)I"⟩, method_40_code, 5, (some .int), [(0, 10, 13, 19)]),
  (⟨q_on 10, "slowest", "(LStepperTable;I[J)I"⟩, method_26_code, 4, (some .int), [(0, 9, 12, 19)]),
  (⟨q_on 10, "speed", "(LStepperTable;II[J)I"⟩, method_17_code, 5, (some .int), [(0, 10, 13, 19), (0, 10, 17, 47)]),
  (⟨q_on 10, "stepsBehind", "(LStepperTable;III[J)I"⟩, method_18_code, 6, (some .int), [(0, 12, 15, 19), (0, 12, 19, 13)]),
  (⟨q_on 10, "straightTime", "(LStepperTable;III[J)I"⟩, method_36_code, 6, (some .int), [(0, 11, 14, 13), (0, 11, 18, 24)]),
  (⟨q_on 10, "swapTargets", "(LStepperTable;II[J)I"⟩, method_23_code, 5, (some .int), [(0, 10, 13, 19), (0, 10, 17, 24)]),
  (⟨q_on 10, "target", "(LStepperTable;II[J)I"⟩, method_15_code, 5, (some .int), [(0, 10, 13, 19)]),
  (⟨q_on 10, "travel", "(LStepperTable;I[J)I"⟩, method_34_code, 4, (some .int), [(0, 9, 12, 19)]),
  (⟨q_on 10, "trueBehind", "(LStepperTable;I[J)I"⟩, method_31_code, 4, (some .int), [(0, 9, 12, 19)]),
  (⟨q_on 10, "turnsAhead", "(LStepperTable;I[J)I"⟩, method_35_code, 4, (some .int), [(0, 9, 12, 19)]),
  (⟨q_on 10, "unqueue", "(LStepperTable;[J)I"⟩, method_11_code, 3, (some .int), [(0, 8, 11, 47)]),
  (⟨q_on 10, "whereAt", "(LStepperTable;II[J)I"⟩, method_30_code, 5, (some .int), [(0, 10, 13, 19), (0, 10, 17, 13), (0, 10, 21, 24)]),
  (⟨q_on 10, "wouldErr", "(LStepperTable;I[J)I"⟩, method_37_code, 4, (some .int), [(0, 9, 12, 19), (0, 9, 15, 24)])]
def q_RI1 : List q_RIt := [(⟨q_on 10, "wouldHome", "(LStepperTable;I[J)I"⟩, method_38_code, 4, (some .int), [(0, 9, 12, 19)]),
  (⟨q_on 0, "clear", "()V"⟩, prog_2_method_2_code, 1, none, []),
  (⟨q_on 0, "copyFrom", "(LStepperTable$Account;)V"⟩, prog_2_method_3_code, 2, none, []),
  (⟨q_on 0, "<init>", "()V"⟩, prog_2_method_1_code, 1, none, []),
  (⟨q_on 0, "number", "(I)I"⟩, prog_2_method_4_code, 2, (some .int), []),
  (⟨q_on 1, "builtIn", "(I)I"⟩, prog_3_method_4_code, 2, (some .int), []),
  (⟨q_on 1, "copyFrom", "(LStepperTable$Axis;)V"⟩, prog_3_method_3_code, 2, none, []),
  (⟨q_on 1, "errorNow", "()I"⟩, prog_3_method_6_code, 1, (some .int), []),
  (⟨q_on 1, "<init>", "()V"⟩, prog_3_method_1_code, 1, none, []),
  (⟨q_on 1, "makeStep", "(I)Z"⟩, prog_3_method_10_code, 3, (some .boolean), []),
  (⟨q_on 1, "property", "(I)I"⟩, prog_3_method_5_code, 2, (some .int), []),
  (⟨q_on 1, "pushBackward", "()Z"⟩, prog_3_method_12_code, 1, (some .boolean), []),
  (⟨q_on 1, "pushForward", "()Z"⟩, prog_3_method_11_code, 1, (some .boolean), []),
  (⟨q_on 1, "reaches", "(I)Z"⟩, prog_3_method_7_code, 2, (some .boolean), []),
  (⟨q_on 1, "readsShut", "()Z"⟩, prog_3_method_8_code, 1, (some .boolean), []),
  (⟨q_on 1, "seek", "(Z)I"⟩, prog_3_method_13_code, 4, (some .int), []),
  (⟨q_on 1, "setUp", "(LStepperTable$Setup;I)V"⟩, prog_3_method_2_code, 3, none, []),
  (⟨q_on 1, "stepsToMove", "(Z)I"⟩, prog_3_method_15_code, 2, (some .int), []),
  (⟨q_on 1, "turnsFor", "(I)Z"⟩, prog_3_method_9_code, 2, (some .boolean), []),
  (⟨q_on 1, "zeroHere", "()V"⟩, prog_3_method_14_code, 1, none, []),
  (⟨q_on 2, "addByte", "(I)V"⟩, prog_4_method_2_code, 2, none, []),
  (⟨q_on 2, "addNumber", "(I)V"⟩, prog_4_method_4_code, 3, none, []),
  (⟨q_on 2, "addWord", "(I)V"⟩, prog_4_method_3_code, 2, none, []),
  (⟨q_on 2, "byteAt", "(I)I"⟩, prog_4_method_5_code, 2, (some .int), []),
  (⟨q_on 2, "<init>", "()V"⟩, prog_4_method_1_code, 1, none, []),
  (⟨q_on 3, "clear", "()V"⟩, prog_5_method_2_code, 1, none, []),
  (⟨q_on 3, "<init>", "()V"⟩, prog_5_method_1_code, 2, none, []),
  (⟨q_on 3, "remember", "(LStepperTable$Table;)V"⟩, prog_5_method_3_code, 3, none, []),
  (⟨q_on 3, "slot", "(I)LStepperTable$Table;"⟩, prog_5_method_5_code, 2, (some (.object "StepperTable$Table")), []),
  (⟨q_on 3, "takeBack", "(LStepperTable$Table;)V"⟩, prog_5_method_4_code, 4, none, []),
  (⟨q_on 4, "changingSteps", "(IZ)I"⟩, prog_6_method_21_code, 6, (some .int), []),
  (⟨q_on 4, "compensationTime", "(I)J"⟩, prog_6_method_30_code, 2, (some .long), []),
  (⟨q_on 4, "directionOf", "(II)I"⟩, prog_6_method_4_code, 2, (some .int), []),
  (⟨q_on 4, "distance", "(II)I"⟩, prog_6_method_13_code, 3, (some .int), []),
  (⟨q_on 4, "goesStraight", "(I)Z"⟩, prog_6_method_7_code, 4, (some .boolean), []),
  (⟨q_on 4, "greatestDeviation", "(I)F"⟩, prog_6_method_26_code, 6, (some .float), []),
  (⟨q_on 4, "greatestSpeed", "(I)I"⟩, prog_6_method_19_code, 4, (some .int), []),
  (⟨q_on 4, "greatestSteps", "(I)I"⟩, prog_6_method_20_code, 5, (some .int), []),
  (⟨q_on 4, "<init>", "()V"⟩, prog_6_method_1_code, 1, none, []),
  (⟨q_on 4, "leadOf", "(I)I"⟩, prog_6_method_12_code, 2, (some .int), [])]
def q_RI2 : List q_RIt := [(⟨q_on 4, "lengthOf", "(I)D"⟩, prog_6_method_28_code, 8, (some .double), []),
  (⟨q_on 4, "limitingAxis", "(LStepperTable$Table;I)I"⟩, prog_6_method_22_code, 8, (some .int), []),
  (⟨q_on 4, "link", "(I)V"⟩, prog_6_method_6_code, 4, none, []),
  (⟨q_on 4, "madeBehind", "(III)I"⟩, prog_6_method_24_code, 6, (some .int), []),
  (⟨q_on 4, "make", "(LStepperTable$Table;LStepperTable$Targets;I)V"⟩, prog_6_method_2_code, 5, none, []),
  (⟨q_on 4, "measure", "(LStepperTable$Axis;LStepperTable$Targets;I)V"⟩, prog_6_method_3_code, 10, none, []),
  (⟨q_on 4, "offLine", "(III)F"⟩, prog_6_method_27_code, 7, (some .float), []),
  (⟨q_on 4, "pointBehind", "(III)I"⟩, prog_6_method_25_code, 4, (some .int), []),
  (⟨q_on 4, "property", "(II)I"⟩, prog_6_method_16_code, 3, (some .int), []),
  (⟨q_on 4, "rate", "(LStepperTable$Table;I)V"⟩, prog_6_method_5_code, 10, none, []),
  (⟨q_on 4, "reach", "(I)I"⟩, prog_6_method_9_code, 2, (some .int), []),
  (⟨q_on 4, "smooth", "()V"⟩, prog_6_method_8_code, 3, none, []),
  (⟨q_on 4, "speedAhead", "(I)I"⟩, prog_6_method_10_code, 2, (some .int), []),
  (⟨q_on 4, "speedAt", "(II)I"⟩, prog_6_method_17_code, 6, (some .int), []),
  (⟨q_on 4, "speedBehind", "(I)I"⟩, prog_6_method_11_code, 2, (some .int), []),
  (⟨q_on 4, "stepTime", "(II)I"⟩, prog_6_method_18_code, 3, (some .int), []),
  (⟨q_on 4, "stepsTime", "(I)J"⟩, prog_6_method_31_code, 8, (some .long), []),
  (⟨q_on 4, "stepsWithin", "(IJ)I"⟩, prog_6_method_29_code, 7, (some .int), []),
  (⟨q_on 4, "straightCount", "()I"⟩, prog_6_method_23_code, 3, (some .int), []),
  (⟨q_on 4, "timeUntil", "(I)J"⟩, prog_6_method_32_code, 5, (some .long), []),
  (⟨q_on 4, "turns", "(II)Z"⟩, prog_6_method_15_code, 3, (some .boolean), []),
  (⟨q_on 4, "wayOf", "(II)I"⟩, prog_6_method_14_code, 3, (some .int), []),
  (⟨q_on 4, "wholeTime", "()J"⟩, prog_6_method_33_code, 1, (some .long), []),
  (⟨q_on 5, "fail", "(II)V"⟩, prog_7_method_14_code, 3, none, []),
  (⟨q_on 5, "findToken", "(LStepperTable$Bytes;)Z"⟩, prog_7_method_6_code, 2, (some .boolean), []),
  (⟨q_on 5, "forget", "()V"⟩, prog_7_method_5_code, 2, none, []),
  (⟨q_on 5, "greatest", "(II)I"⟩, prog_7_method_12_code, 3, (some .int), []),
  (⟨q_on 5, "hasSeen", "(I)Z"⟩, prog_7_method_3_code, 2, (some .boolean), []),
  (⟨q_on 5, "<init>", "()V"⟩, prog_7_method_1_code, 1, none, []),
  (⟨q_on 5, "isBlank", "(I)Z"⟩, prog_7_method_18_code, 1, (some .boolean), []),
  (⟨q_on 5, "isDigit", "(I)Z"⟩, prog_7_method_20_code, 1, (some .boolean), []),
  (⟨q_on 5, "isLetter", "(I)Z"⟩, prog_7_method_19_code, 1, (some .boolean), []),
  (⟨q_on 5, "isWord", "(LStepperTable$Bytes;IILjava/lang/String;)Z"⟩, prog_7_method_17_code, 5, (some .boolean), []),
  (⟨q_on 5, "keep", "(III)V"⟩, prog_7_method_13_code, 4, none, []),
  (⟨q_on 5, "least", "(II)I"⟩, prog_7_method_11_code, 3, (some .int), []),
  (⟨q_on 5, "number", "(II)I"⟩, prog_7_method_2_code, 3, (some .int), []),
  (⟨q_on 5, "numbersOf", "(I)I"⟩, prog_7_method_15_code, 1, (some .int), []),
  (⟨q_on 5, "parse", "(LStepperTable$Bytes;)V"⟩, prog_7_method_4_code, 3, none, []),
  (⟨q_on 5, "readNumber", "(LStepperTable$Bytes;II)V"⟩, prog_7_method_9_code, 7, none, []),
  (⟨q_on 5, "readSemicolon", "(LStepperTable$Bytes;)V"⟩, prog_7_method_10_code, 2, none, [])]
def q_RI3 : List q_RIt := [(⟨q_on 5, "readStatement", "(LStepperTable$Bytes;)V"⟩, prog_7_method_7_code, 6, none, []),
  (⟨q_on 5, "readWord", "(LStepperTable$Bytes;)I"⟩, prog_7_method_8_code, 4, (some .int), []),
  (⟨q_on 5, "wordOf", "(I)Ljava/lang/String;"⟩, prog_7_method_16_code, 1, (some (.object "java/lang/String")), []),
  (⟨q_on 6, "addUnlessThere", "(LStepperTable$Targets;I)V"⟩, prog_8_method_10_code, 5, none, []),
  (⟨q_on 6, "arrange", "(LStepperTable$Targets;I)V"⟩, prog_8_method_9_code, 4, none, []),
  (⟨q_on 6, "axisAt", "(I)LStepperTable$Axis;"⟩, prog_8_method_4_code, 2, (some (.object "StepperTable$Axis")), []),
  (⟨q_on 6, "compensate", "(LStepperTable$Plan;I)Z"⟩, prog_8_method_19_code, 8, (some .boolean), []),
  (⟨q_on 6, "copyFrom", "(LStepperTable$Table;)V"⟩, prog_8_method_3_code, 2, none, []),
  (⟨q_on 6, "countReversals", "(LStepperTable$Plan;I)V"⟩, prog_8_method_18_code, 5, none, []),
  (⟨q_on 6, "endOf", "(LStepperTable$Targets;I)I"⟩, prog_8_method_7_code, 3, (some .int), []),
  (⟨q_on 6, "failHoming", "(LStepperTable$Axis;I)I"⟩, prog_8_method_14_code, 3, (some .int), []),
  (⟨q_on 6, "homeAxis", "(I)I"⟩, prog_8_method_13_code, 5, (some .int), []),
  (⟨q_on 6, "homedAxes", "()I"⟩, prog_8_method_5_code, 1, (some .int), []),
  (⟨q_on 6, "<init>", "()V"⟩, prog_8_method_1_code, 1, none, []),
  (⟨q_on 6, "jogAxis", "(II)V"⟩, prog_8_method_15_code, 6, none, []),
  (⟨q_on 6, "leadsNowhere", "(LStepperTable$Targets;)Z"⟩, prog_8_method_8_code, 7, (some .boolean), []),
  (⟨q_on 6, "lostSteps", "()I"⟩, prog_8_method_6_code, 1, (some .int), []),
  (⟨q_on 6, "makeMove", "(LStepperTable$Plan;I)Z"⟩, prog_8_method_17_code, 6, (some .boolean), []),
  (⟨q_on 6, "makeMoves", "(LStepperTable$Plan;I)I"⟩, prog_8_method_16_code, 4, (some .int), []),
  (⟨q_on 6, "setUp", "(LStepperTable$Setup;)V"⟩, prog_8_method_2_code, 2, none, []),
  (⟨q_on 6, "slowStepTime", "()I"⟩, prog_8_method_11_code, 1, (some .int), []),
  (⟨q_on 6, "stepAxes", "(LStepperTable$Plan;II)Z"⟩, prog_8_method_20_code, 6, (some .boolean), []),
  (⟨q_on 6, "stopWith", "(I)V"⟩, prog_8_method_12_code, 2, none, []),
  (⟨q_on 7, "clear", "()V"⟩, prog_9_method_2_code, 1, none, []),
  (⟨q_on 7, "copyFrom", "(LStepperTable$Targets;)V"⟩, prog_9_method_3_code, 3, none, []),
  (⟨q_on 7, "copyTarget", "(II)V"⟩, prog_9_method_10_code, 4, none, []),
  (⟨q_on 7, "exchange", "(II)V"⟩, prog_9_method_9_code, 5, none, []),
  (⟨q_on 7, "gap", "(JJ)J"⟩, prog_9_method_12_code, 4, (some .long), []),
  (⟨q_on 7, "get", "(II)I"⟩, prog_9_method_4_code, 3, (some .int), []),
  (⟨q_on 7, "<init>", "()V"⟩, prog_9_method_1_code, 1, none, []),
  (⟨q_on 7, "insertAt", "(IIII)V"⟩, prog_9_method_6_code, 6, none, []),
  (⟨q_on 7, "nearestTo", "(IIII)I"⟩, prog_9_method_11_code, 11, (some .int), []),
  (⟨q_on 7, "removeAt", "(I)V"⟩, prog_9_method_7_code, 3, none, []),
  (⟨q_on 7, "removeFirst", "(I)V"⟩, prog_9_method_8_code, 3, none, []),
  (⟨q_on 7, "set", "(III)V"⟩, prog_9_method_5_code, 4, none, []),
  (⟨q_on 8, "account", "(II)I"⟩, prog_1_method_56_code, 3, (some .int), []),
  (⟨q_on 8, "appendInput", "(IIIII)I"⟩, prog_1_method_2_code, 6, (some .int), []),
  (⟨q_on 8, "axis", "(II)I"⟩, prog_1_method_8_code, 4, (some .int), []),
  (⟨q_on 8, "bestFirst", "()I"⟩, prog_1_method_53_code, 7, (some .int), []),
  (⟨q_on 8, "bestStart", "()I"⟩, prog_1_method_54_code, 7, (some .int), [])]
def q_RI4 : List q_RIt := [(⟨q_on 8, "bound", "(IZ)I"⟩, prog_1_method_37_code, 6, (some .int), []),
  (⟨q_on 8, "checkAllHomed", "()V"⟩, prog_1_method_67_code, 1, none, []),
  (⟨q_on 8, "checkAxis", "(I)V"⟩, prog_1_method_64_code, 2, none, []),
  (⟨q_on 8, "checkHomed", "(I)V"⟩, prog_1_method_66_code, 2, none, []),
  (⟨q_on 8, "checkMove", "(I)V"⟩, prog_1_method_65_code, 2, none, []),
  (⟨q_on 8, "checkNoAlarm", "()V"⟩, prog_1_method_68_code, 1, none, []),
  (⟨q_on 8, "checkPoint", "(III)V"⟩, prog_1_method_70_code, 4, none, []),
  (⟨q_on 8, "checkQueueEmpty", "()V"⟩, prog_1_method_69_code, 1, none, []),
  (⟨q_on 8, "checkRoom", "()V"⟩, prog_1_method_71_code, 1, none, []),
  (⟨q_on 8, "checkSteps", "(II)V"⟩, prog_1_method_72_code, 3, none, []),
  (⟨q_on 8, "coordinate", "(I)I"⟩, prog_1_method_9_code, 2, (some .int), []),
  (⟨q_on 8, "count", "(I)I"⟩, prog_1_method_7_code, 2, (some .int), []),
  (⟨q_on 8, "deviation", "(I)F"⟩, prog_1_method_32_code, 2, (some .float), []),
  (⟨q_on 8, "dropTarget", "(I)I"⟩, prog_1_method_26_code, 2, (some .int), []),
  (⟨q_on 8, "enter", "([III)V"⟩, prog_1_method_77_code, 3, none, []),
  (⟨q_on 8, "entry", "([II)I"⟩, prog_1_method_76_code, 2, (some .int), []),
  (⟨q_on 8, "error", "(I)I"⟩, prog_1_method_10_code, 2, (some .int), []),
  (⟨q_on 8, "errorCode", "()I"⟩, prog_1_method_5_code, 1, (some .int), []),
  (⟨q_on 8, "errorOffset", "()I"⟩, prog_1_method_6_code, 1, (some .int), []),
  (⟨q_on 8, "forecast", "()LStepperTable$Table;"⟩, prog_1_method_75_code, 1, (some (.object "StepperTable$Table")), []),
  (⟨q_on 8, "home", "(I)I"⟩, prog_1_method_13_code, 2, (some .int), []),
  (⟨q_on 8, "homeAll", "()I"⟩, prog_1_method_23_code, 4, (some .int), []),
  (⟨q_on 8, "<init>", "()V"⟩, prog_1_method_1_code, 1, none, []),
  (⟨q_on 8, "insert", "(IIII)I"⟩, prog_1_method_25_code, 5, (some .int), []),
  (⟨q_on 8, "jog", "(II)I"⟩, prog_1_method_14_code, 3, (some .int), []),
  (⟨q_on 8, "lastsUntil", "(I)J"⟩, prog_1_method_45_code, 2, (some .long), []),
  (⟨q_on 8, "lineLength", "(I)D"⟩, prog_1_method_40_code, 2, (some .double), []),
  (⟨q_on 8, "loadTable", "()I"⟩, prog_1_method_4_code, 1, (some .int), []),
  (⟨q_on 8, "lostShare", "(I)F"⟩, prog_1_method_58_code, 4, (some .float), []),
  (⟨q_on 8, "meanDuration", "()D"⟩, prog_1_method_57_code, 1, (some .double), []),
  (⟨q_on 8, "meanSpeed", "(I)D"⟩, prog_1_method_42_code, 5, (some .double), []),
  (⟨q_on 8, "move", "(II)I"⟩, prog_1_method_29_code, 3, (some .int), []),
  (⟨q_on 8, "nearest", "(III)I"⟩, prog_1_method_38_code, 4, (some .int), []),
  (⟨q_on 8, "nearestOrder", "(I)I"⟩, prog_1_method_39_code, 5, (some .int), []),
  (⟨q_on 8, "outputByte", "(I)I"⟩, prog_1_method_60_code, 2, (some .int), []),
  (⟨q_on 8, "planned", "()LStepperTable$Plan;"⟩, prog_1_method_74_code, 1, (some (.object "StepperTable$Plan")), []),
  (⟨q_on 8, "pointAt", "(III)I"⟩, prog_1_method_33_code, 5, (some .int), []),
  (⟨q_on 8, "printQueue", "()I"⟩, prog_1_method_59_code, 3, (some .int), []),
  (⟨q_on 8, "queue", "(III)I"⟩, prog_1_method_15_code, 4, (some .int), []),
  (⟨q_on 8, "queueLength", "()D"⟩, prog_1_method_41_code, 5, (some .double), [])]
def q_RI5 : List q_RIt := [(⟨q_on 8, "queueTime", "()J"⟩, prog_1_method_48_code, 1, (some .long), []),
  (⟨q_on 8, "quotient", "(II)I"⟩, prog_1_method_78_code, 2, (some .int), []),
  (⟨q_on 8, "rampSteps", "(IZ)I"⟩, prog_1_method_34_code, 3, (some .int), []),
  (⟨q_on 8, "ratio", "(DD)D"⟩, prog_1_method_79_code, 4, (some .double), []),
  (⟨q_on 8, "readsClosed", "(I)Z"⟩, prog_1_method_11_code, 2, (some .boolean), []),
  (⟨q_on 8, "reset", "()I"⟩, prog_1_method_18_code, 2, (some .int), []),
  (⟨q_on 8, "restoreState", "()I"⟩, prog_1_method_63_code, 1, (some .int), []),
  (⟨q_on 8, "run", "(I)I"⟩, prog_1_method_17_code, 2, (some .int), []),
  (⟨q_on 8, "runAll", "()I"⟩, prog_1_method_24_code, 1, (some .int), []),
  (⟨q_on 8, "saveState", "()I"⟩, prog_1_method_62_code, 1, (some .int), []),
  (⟨q_on 8, "setCompensation", "(Z)Z"⟩, prog_1_method_19_code, 3, (some .boolean), []),
  (⟨q_on 8, "setDetection", "(Z)Z"⟩, prog_1_method_20_code, 3, (some .boolean), []),
  (⟨q_on 8, "setStart", "(I)I"⟩, prog_1_method_22_code, 3, (some .int), []),
  (⟨q_on 8, "setStuck", "(II)I"⟩, prog_1_method_21_code, 5, (some .int), []),
  (⟨q_on 8, "slackLeft", "(IZ)I"⟩, prog_1_method_55_code, 3, (some .int), []),
  (⟨q_on 8, "slowest", "(I)I"⟩, prog_1_method_35_code, 2, (some .int), []),
  (⟨q_on 8, "speed", "(II)I"⟩, prog_1_method_30_code, 4, (some .int), []),
  (⟨q_on 8, "stepsBehind", "(III)I"⟩, prog_1_method_31_code, 5, (some .int), []),
  (⟨q_on 8, "straightPairs", "()I"⟩, prog_1_method_36_code, 1, (some .int), []),
  (⟨q_on 8, "straightTime", "(III)J"⟩, prog_1_method_49_code, 4, (some .long), []),
  (⟨q_on 8, "swapTargets", "(II)I"⟩, prog_1_method_27_code, 3, (some .int), []),
  (⟨q_on 8, "takePath", "()I"⟩, prog_1_method_73_code, 1, (some .int), []),
  (⟨q_on 8, "target", "(II)I"⟩, prog_1_method_28_code, 3, (some .int), []),
  (⟨q_on 8, "time", "()J"⟩, prog_1_method_12_code, 1, (some .long), []),
  (⟨q_on 8, "travel", "(I)I"⟩, prog_1_method_43_code, 5, (some .int), []),
  (⟨q_on 8, "trueBehind", "(I)I"⟩, prog_1_method_47_code, 2, (some .int), []),
  (⟨q_on 8, "truncateInput", "(I)Z"⟩, prog_1_method_3_code, 2, (some .boolean), []),
  (⟨q_on 8, "turnsAhead", "(I)I"⟩, prog_1_method_44_code, 5, (some .int), []),
  (⟨q_on 8, "undo", "()I"⟩, prog_1_method_61_code, 1, (some .int), []),
  (⟨q_on 8, "unqueue", "()I"⟩, prog_1_method_16_code, 1, (some .int), []),
  (⟨q_on 8, "whereAt", "(II)I"⟩, prog_1_method_46_code, 10, (some .int), []),
  (⟨q_on 8, "wouldErr", "(I)I"⟩, prog_1_method_51_code, 2, (some .int), []),
  (⟨q_on 8, "wouldHome", "(I)I"⟩, prog_1_method_52_code, 2, (some .int), []),
  (⟨q_on 8, "wouldLose", "()I"⟩, prog_1_method_50_code, 2, (some .int), []),
  (⟨q_on 9, "account", "(II)I"⟩, prog_11_method_126_code, 3, (some .int), []),
  (⟨q_on 9, "advanceToken", "()V"⟩, prog_11_method_35_code, 2, none, []),
  (⟨q_on 9, "amount", "(I)I"⟩, prog_11_method_10_code, 1, (some .int), []),
  (⟨q_on 9, "appendInput", "(IIIII)I"⟩, prog_11_method_32_code, 6, (some .int), []),
  (⟨q_on 9, "appendWord", "(I)V"⟩, prog_11_method_31_code, 3, none, []),
  (⟨q_on 9, "axis", "(II)I"⟩, prog_11_method_51_code, 3, (some .int), [])]
def q_RI6 : List q_RIt := [(⟨q_on 9, "beginOf", "(II)I"⟩, prog_11_method_18_code, 3, (some .int), []),
  (⟨q_on 9, "begins", "()V"⟩, prog_11_method_107_code, 1, none, []),
  (⟨q_on 9, "bestFirst", "()I"⟩, prog_11_method_123_code, 7, (some .int), []),
  (⟨q_on 9, "bestStart", "()I"⟩, prog_11_method_124_code, 7, (some .int), []),
  (⟨q_on 9, "bound", "(IZ)I"⟩, prog_11_method_95_code, 5, (some .int), []),
  (⟨q_on 9, "byteAt", "(I)I"⟩, prog_11_method_34_code, 2, (some .int), []),
  (⟨q_on 9, "clear", "()V"⟩, prog_11_method_7_code, 2, none, []),
  (⟨q_on 9, "closes", "()V"⟩, prog_11_method_8_code, 2, none, []),
  (⟨q_on 9, "coordinate", "(I)I"⟩, prog_11_method_52_code, 2, (some .int), []),
  (⟨q_on 9, "copies", "([JI[JII)V"⟩, prog_11_method_5_code, 6, none, []),
  (⟨q_on 9, "count", "(I)I"⟩, prog_11_method_48_code, 2, (some .int), []),
  (⟨q_on 9, "deviation", "(I)F"⟩, prog_11_method_90_code, 6, (some .float), []),
  (⟨q_on 9, "dropTarget", "(I)I"⟩, prog_11_method_70_code, 3, (some .int), []),
  (⟨q_on 9, "ends", "()V"⟩, prog_11_method_108_code, 1, none, []),
  (⟨q_on 9, "error", "(I)I"⟩, prog_11_method_54_code, 2, (some .int), []),
  (⟨q_on 9, "errorCode", "()I"⟩, prog_11_method_46_code, 1, (some .int), []),
  (⟨q_on 9, "errorOf", "(I)I"⟩, prog_11_method_53_code, 2, (some .int), []),
  (⟨q_on 9, "errorOffset", "()I"⟩, prog_11_method_47_code, 1, (some .int), []),
  (⟨q_on 9, "fails", "(ZI)Z"⟩, prog_11_method_4_code, 3, (some .boolean), []),
  (⟨q_on 9, "failsAt", "(I)Z"⟩, prog_11_method_37_code, 2, (some .boolean), []),
  (⟨q_on 9, "farther", "(JJJ)J"⟩, prog_11_method_96_code, 8, (some .long), []),
  (⟨q_on 9, "fastSteps", "(I)I"⟩, prog_11_method_84_code, 5, (some .int), []),
  (⟨q_on 9, "fastest", "(I)I"⟩, prog_11_method_83_code, 4, (some .int), []),
  (⟨q_on 9, "home", "(I)I"⟩, prog_11_method_58_code, 2, (some .int), []),
  (⟨q_on 9, "homeAll", "()I"⟩, prog_11_method_59_code, 4, (some .int), []),
  (⟨q_on 9, "homedMany", "()I"⟩, prog_11_method_17_code, 3, (some .int), []),
  (⟨q_on 9, "homes", "(I)I"⟩, prog_11_method_16_code, 4, (some .int), []),
  (⟨q_on 9, "inRange", "(JJJ)Z"⟩, prog_11_method_3_code, 6, (some .boolean), []),
  (⟨q_on 9, "<init>", "()V"⟩, prog_11_method_1_code, 1, none, []),
  (⟨q_on 9, "insert", "(IIII)I"⟩, prog_11_method_67_code, 5, (some .int), []),
  (⟨q_on 9, "isBusy", "()Z"⟩, prog_11_method_57_code, 1, (some .boolean), []),
  (⟨q_on 9, "isPoint", "(III)Z"⟩, prog_11_method_61_code, 4, (some .boolean), []),
  (⟨q_on 9, "isStraight", "(I)Z"⟩, prog_11_method_20_code, 3, (some .boolean), []),
  (⟨q_on 9, "isWord", "(Ljava/lang/String;)Z"⟩, prog_11_method_38_code, 3, (some .boolean), []),
  (⟨q_on 9, "jog", "(II)I"⟩, prog_11_method_60_code, 5, (some .int), []),
  (⟨q_on 9, "lasts", "(II)J"⟩, prog_11_method_23_code, 3, (some .long), []),
  (⟨q_on 9, "lastsUntil", "(I)J"⟩, prog_11_method_111_code, 2, (some .long), []),
  (⟨q_on 9, "laysMove", "(I)V"⟩, prog_11_method_19_code, 6, none, []),
  (⟨q_on 9, "laysPlan", "()V"⟩, prog_11_method_21_code, 3, none, []),
  (⟨q_on 9, "leadsNowhere", "()Z"⟩, prog_11_method_25_code, 4, (some .boolean), [])]
def q_RI7 : List q_RIt := [(⟨q_on 9, "leavesOut", "()V"⟩, prog_11_method_121_code, 4, none, []),
  (⟨q_on 9, "lineLength", "(I)D"⟩, prog_11_method_104_code, 2, (some .double), []),
  (⟨q_on 9, "lineOf", "(I)D"⟩, prog_11_method_103_code, 4, (some .double), []),
  (⟨q_on 9, "loadTable", "()I"⟩, prog_11_method_45_code, 2, (some .int), []),
  (⟨q_on 9, "lostMany", "()I"⟩, prog_11_method_117_code, 1, (some .int), []),
  (⟨q_on 9, "lostShare", "(I)F"⟩, prog_11_method_128_code, 3, (some .float), []),
  (⟨q_on 9, "made", "(III)I"⟩, prog_11_method_24_code, 4, (some .int), []),
  (⟨q_on 9, "makes", "(I)I"⟩, prog_11_method_30_code, 4, (some .int), []),
  (⟨q_on 9, "makesMove", "(I)Z"⟩, prog_11_method_28_code, 4, (some .boolean), []),
  (⟨q_on 9, "makesStep", "(II)Z"⟩, prog_11_method_27_code, 4, (some .boolean), []),
  (⟨q_on 9, "makesUp", "(II)Z"⟩, prog_11_method_26_code, 5, (some .boolean), []),
  (⟨q_on 9, "mayQueue", "()Z"⟩, prog_11_method_62_code, 1, (some .boolean), []),
  (⟨q_on 9, "meanDuration", "()D"⟩, prog_11_method_127_code, 1, (some .double), []),
  (⟨q_on 9, "meanSpeed", "(I)D"⟩, prog_11_method_106_code, 5, (some .double), []),
  (⟨q_on 9, "move", "(II)I"⟩, prog_11_method_85_code, 3, (some .int), []),
  (⟨q_on 9, "nearest", "(III)I"⟩, prog_11_method_98_code, 4, (some .int), []),
  (⟨q_on 9, "nearestOf", "(JJJI)I"⟩, prog_11_method_97_code, 15, (some .int), []),
  (⟨q_on 9, "nearestOrder", "(I)I"⟩, prog_11_method_99_code, 5, (some .int), []),
  (⟨q_on 9, "noAxis", "(I)Z"⟩, prog_11_method_49_code, 2, (some .boolean), []),
  (⟨q_on 9, "noMove", "(I)Z"⟩, prog_11_method_69_code, 2, (some .boolean), []),
  (⟨q_on 9, "noPart", "(II)Z"⟩, prog_11_method_81_code, 3, (some .boolean), []),
  (⟨q_on 9, "noSteps", "(III)Z"⟩, prog_11_method_87_code, 4, (some .boolean), []),
  (⟨q_on 9, "notHomed", "(II)Z"⟩, prog_11_method_50_code, 3, (some .boolean), []),
  (⟨q_on 9, "of", "(I)I"⟩, prog_11_method_6_code, 2, (some .int), []),
  (⟨q_on 9, "outputByte", "(I)I"⟩, prog_11_method_132_code, 2, (some .int), []),
  (⟨q_on 9, "passesUp", "(I)V"⟩, prog_11_method_113_code, 4, none, []),
  (⟨q_on 9, "pointAt", "(III)I"⟩, prog_11_method_89_code, 4, (some .int), []),
  (⟨q_on 9, "printQueue", "()I"⟩, prog_11_method_131_code, 3, (some .int), []),
  (⟨q_on 9, "puts", "(IIII)V"⟩, prog_11_method_63_code, 6, none, []),
  (⟨q_on 9, "queue", "(III)I"⟩, prog_11_method_66_code, 4, (some .int), []),
  (⟨q_on 9, "queueLength", "()D"⟩, prog_11_method_105_code, 4, (some .double), []),
  (⟨q_on 9, "queueTime", "()J"⟩, prog_11_method_112_code, 1, (some .long), []),
  (⟨q_on 9, "queued", "(IIII)I"⟩, prog_11_method_65_code, 6, (some .int), []),
  (⟨q_on 9, "rampSteps", "(IZ)I"⟩, prog_11_method_91_code, 6, (some .int), []),
  (⟨q_on 9, "readAxis", "(I)Z"⟩, prog_11_method_41_code, 3, (some .boolean), []),
  (⟨q_on 9, "readBegin", "()Z"⟩, prog_11_method_42_code, 3, (some .boolean), []),
  (⟨q_on 9, "readStatement", "()Z"⟩, prog_11_method_43_code, 1, (some .boolean), []),
  (⟨q_on 9, "readText", "()Z"⟩, prog_11_method_44_code, 1, (some .boolean), []),
  (⟨q_on 9, "reads", "(I)Z"⟩, prog_11_method_13_code, 2, (some .boolean), []),
  (⟨q_on 9, "readsClosed", "(I)Z"⟩, prog_11_method_55_code, 2, (some .boolean), [])]
def q_RI8 : List q_RIt := [(⟨q_on 9, "remembers", "()V"⟩, prog_11_method_9_code, 1, none, []),
  (⟨q_on 9, "reset", "()I"⟩, prog_11_method_75_code, 2, (some .int), []),
  (⟨q_on 9, "restoreState", "()I"⟩, prog_11_method_135_code, 1, (some .int), []),
  (⟨q_on 9, "root", "(D)D"⟩, prog_11_method_102_code, 5, (some .double), []),
  (⟨q_on 9, "run", "(I)I"⟩, prog_11_method_73_code, 2, (some .int), []),
  (⟨q_on 9, "runAll", "()I"⟩, prog_11_method_74_code, 1, (some .int), []),
  (⟨q_on 9, "saveState", "()I"⟩, prog_11_method_134_code, 1, (some .int), []),
  (⟨q_on 9, "seeks", "(IZIJ)I"⟩, prog_11_method_15_code, 9, (some .int), []),
  (⟨q_on 9, "setCompensation", "(Z)Z"⟩, prog_11_method_77_code, 2, (some .boolean), []),
  (⟨q_on 9, "setDetection", "(Z)Z"⟩, prog_11_method_78_code, 2, (some .boolean), []),
  (⟨q_on 9, "setStart", "(I)I"⟩, prog_11_method_80_code, 3, (some .int), []),
  (⟨q_on 9, "setStuck", "(II)I"⟩, prog_11_method_79_code, 4, (some .int), []),
  (⟨q_on 9, "sets", "(IZ)Z"⟩, prog_11_method_76_code, 4, (some .boolean), []),
  (⟨q_on 9, "signOf", "(I)I"⟩, prog_11_method_11_code, 1, (some .int), []),
  (⟨q_on 9, "slackLeft", "(IZ)I"⟩, prog_11_method_125_code, 3, (some .int), []),
  (⟨q_on 9, "slowTime", "()J"⟩, prog_11_method_14_code, 1, (some .long), []),
  (⟨q_on 9, "slowest", "(I)I"⟩, prog_11_method_92_code, 3, (some .int), []),
  (⟨q_on 9, "speed", "(II)I"⟩, prog_11_method_86_code, 3, (some .int), []),
  (⟨q_on 9, "speedAt", "(II)I"⟩, prog_11_method_22_code, 3, (some .int), []),
  (⟨q_on 9, "startsOnce", "(IZ)Z"⟩, prog_11_method_40_code, 4, (some .boolean), []),
  (⟨q_on 9, "steps", "(II)Z"⟩, prog_11_method_12_code, 7, (some .boolean), []),
  (⟨q_on 9, "stepsBehind", "(III)I"⟩, prog_11_method_88_code, 4, (some .int), []),
  (⟨q_on 9, "stops", "()V"⟩, prog_11_method_29_code, 2, none, []),
  (⟨q_on 9, "straightMany", "()I"⟩, prog_11_method_93_code, 3, (some .int), []),
  (⟨q_on 9, "straightPairs", "()I"⟩, prog_11_method_94_code, 1, (some .int), []),
  (⟨q_on 9, "straightTime", "(III)J"⟩, prog_11_method_116_code, 6, (some .long), []),
  (⟨q_on 9, "swapTargets", "(II)I"⟩, prog_11_method_72_code, 4, (some .int), []),
  (⟨q_on 9, "swaps", "(II)V"⟩, prog_11_method_71_code, 6, none, []),
  (⟨q_on 9, "takesInto", "(IJJ)Z"⟩, prog_11_method_39_code, 6, (some .boolean), []),
  (⟨q_on 9, "takesOut", "(I)V"⟩, prog_11_method_64_code, 3, none, []),
  (⟨q_on 9, "target", "(II)I"⟩, prog_11_method_82_code, 3, (some .int), []),
  (⟨q_on 9, "thoughtTime", "(I)J"⟩, prog_11_method_109_code, 5, (some .long), []),
  (⟨q_on 9, "time", "()J"⟩, prog_11_method_56_code, 1, (some .long), []),
  (⟨q_on 9, "timeOf", "(I)J"⟩, prog_11_method_110_code, 4, (some .long), []),
  (⟨q_on 9, "timeWithFirst", "(I)J"⟩, prog_11_method_122_code, 8, (some .long), []),
  (⟨q_on 9, "tokenLength", "()I"⟩, prog_11_method_36_code, 1, (some .int), []),
  (⟨q_on 9, "travel", "(I)I"⟩, prog_11_method_100_code, 4, (some .int), []),
  (⟨q_on 9, "trueBehind", "(I)I"⟩, prog_11_method_115_code, 5, (some .int), []),
  (⟨q_on 9, "truncateInput", "(I)Z"⟩, prog_11_method_33_code, 2, (some .boolean), []),
  (⟨q_on 9, "turnsAhead", "(I)I"⟩, prog_11_method_101_code, 6, (some .int), [])]
def q_RI9 : List q_RIt := [(⟨q_on 9, "undo", "()I"⟩, prog_11_method_133_code, 1, (some .int), []),
  (⟨q_on 9, "unqueue", "()I"⟩, prog_11_method_68_code, 1, (some .int), []),
  (⟨q_on 9, "whereAt", "(II)I"⟩, prog_11_method_114_code, 6, (some .int), []),
  (⟨q_on 9, "wouldErr", "(I)I"⟩, prog_11_method_119_code, 5, (some .int), []),
  (⟨q_on 9, "wouldHome", "(I)I"⟩, prog_11_method_120_code, 3, (some .int), []),
  (⟨q_on 9, "wouldLose", "()I"⟩, prog_11_method_118_code, 5, (some .int), []),
  (⟨q_on 9, "write", "(I)V"⟩, prog_11_method_129_code, 2, none, []),
  (⟨q_on 9, "writeNumber", "(I)V"⟩, prog_11_method_130_code, 3, none, []),
  (⟨q_on 9, "thrown", "()I"⟩, prog_11_method_2_code, 1, (some .int), []),
  (⟨q_on 10, "law", "([I)Z"⟩, code, 10, (some .boolean), [])]
def q_RI : List q_RIt := q_RI0 ++ (q_RI1 ++ (q_RI2 ++ (q_RI3 ++ (q_RI4 ++ (q_RI5 ++ (q_RI6 ++ (q_RI7 ++ (q_RI8 ++ (q_RI9)))))))))
def q_ri (i : Nat) : q_RIt := (q_RI[i]?).getD (⟨"", "", ""⟩, .empty, 0, none, [])
def q_y (i : Nat) : MethodName := (q_ri i).1
def q_bc (i : Nat) : ByteArray := (q_ri i).2.1
def q_mL (i : Nat) : Nat := (q_ri i).2.2.1
def q_rt (i : Nat) : Option FieldType := (q_ri i).2.2.2.1
def q_hh (i : Nat) : List (Nat × Nat × Nat × Nat) := (q_ri i).2.2.2.2
def q_cw (i : Nat) : Cond := match q_hh i with
  | [] => .code (q_y i) (q_bc i) (q_mL i) (q_rt i)
  | h :: t => .codeWith (q_y i) (q_bc i) (q_mL i) (q_rt i) (h :: t)
def q_FL : List (Nat × Nat × Nat × Nat) := [(0, 7, 0, 0), (0, 13, 0, 1), (0, 16, 0, 2), (0, 19, 0, 3), (0, 22, 0, 4), (0, 25, 0, 5), (0, 28, 0, 6), (1, 9, 1, 0), (1, 15, 1, 1), (1, 18, 1, 2), (1, 21, 1, 3), (1, 24, 1, 4), (1, 27, 1, 5), (1, 30, 1, 8), (1, 33, 1, 9), (1, 36, 1, 10), (1, 43, 1, 14), (1, 53, 5, 1), (1, 61, 1, 6), (1, 64, 1, 7), (1, 67, 1, 11), (1, 70, 1, 12), (1, 73, 1, 13), (1, 83, 0, 0), (1, 86, 0, 1), (1, 89, 0, 2), (2, 9, 2, 0), (2, 15, 2, 1), (3, 11, 3, 0), (3, 18, 3, 1), (3, 22, 3, 2), (4, 9, 4, 0), (4, 15, 4, 1), (4, 18, 4, 2), (4, 21, 4, 3), (4, 24, 4, 4), (4, 27, 4, 5), (4, 30, 4, 6), (4, 33, 4, 7), (4, 36, 4, 8), (4, 39, 7, 1), (4, 45, 4, 9), (4, 46, 4, 10), (4, 84, 1, 12), (4, 89, 1, 8), (4, 111, 1, 2), (4, 117, 1, 3), (4, 124, 1, 1), (4, 127, 6, 5), (5, 11, 5, 0), (5, 15, 5, 1), (5, 18, 5, 4), (5, 22, 5, 5), (5, 29, 5, 3), (5, 51, 5, 2), (5, 54, 5, 6), (5, 57, 2, 1), (6, 12, 6, 0), (6, 18, 6, 1), (6, 21, 6, 2), (6, 27, 6, 3), (6, 31, 6, 4), (6, 42, 5, 2), (6, 49, 6, 5), (6, 53, 6, 6), (6, 56, 6, 7), (6, 59, 6, 8), (6, 63, 6, 9), (6, 66, 6, 10), (6, 76, 1, 11), (6, 79, 1, 14), (6, 83, 0, 2), (6, 88, 7, 1), (6, 99, 1, 12), (6, 139, 0, 4), (6, 142, 0, 5), (6, 187, 0, 6), (6, 193, 1, 1), (6, 196, 0, 3), (7, 9, 7, 0), (7, 15, 7, 1), (8, 10, 8, 0), (8, 19, 8, 1), (8, 26, 8, 2), (8, 30, 8, 3), (8, 33, 8, 4), (8, 39, 8, 5), (8, 46, 8, 6), (8, 53, 8, 7), (8, 57, 8, 8), (8, 60, 2, 1), (8, 72, 5, 4), (8, 82, 8, 9), (8, 86, 6, 0), (8, 90, 1, 0), (8, 93, 6, 1), (8, 96, 6, 2), (8, 99, 5, 5), (8, 102, 6, 4), (8, 105, 6, 5), (8, 108, 6, 6), (8, 111, 6, 7), (8, 114, 6, 3), (8, 117, 7, 1), (8, 124, 3, 1), (8, 149, 1, 12), (8, 159, 6, 8), (8, 182, 1, 6), (8, 228, 1, 9), (8, 298, 4, 9), (8, 368, 1, 14), (8, 377, 6, 10), (8, 380, 6, 9), (8, 383, 0, 0), (8, 386, 0, 1), (8, 389, 0, 2), (8, 416, 1, 11), (9, 7, 9, 0), (9, 13, 9, 1), (9, 16, 9, 2), (9, 19, 9, 3), (9, 22, 9, 4), (9, 25, 9, 8), (9, 29, 9, 9), (9, 32, 9, 10), (9, 35, 9, 11), (9, 38, 9, 12), (9, 41, 9, 13), (9, 44, 9, 16), (9, 48, 9, 25), (9, 51, 9, 26), (9, 60, 9, 7), (9, 73, 9, 5), (9, 157, 9, 14), (9, 167, 9, 19), (9, 173, 9, 20), (9, 176, 9, 21), (9, 179, 9, 22), (9, 190, 9, 17), (9, 193, 9, 18), (9, 215, 9, 23), (9, 264, 9, 15), (9, 267, 9, 6), (9, 391, 9, 24), (9, 407, 9, 27)]
def q_CL : List (Nat × Nat × Nat) := [(1, 40, 0), (3, 9, 6), (6, 9, 1), (6, 24, 7), (8, 7, 2), (8, 16, 5), (8, 23, 6), (8, 36, 3), (8, 43, 4), (8, 50, 7), (10, 8, 8), (10, 152, 9)]
def q_XL : List (Nat × Nat × Nat) := [(8, 125, 0), (8, 203, 3), (8, 404, 2), (8, 409, 1), (10, 13, 0), (10, 19, 1), (10, 24, 2), (10, 47, 3)]
def q_ML : List (Nat × Nat × Nat) := [(1, 47, 115), (1, 76, 41), (1, 79, 42), (1, 92, 52), (1, 96, 51), (1, 99, 54), (1, 102, 49), (2, 19, 60), (3, 25, 68), (3, 29, 127), (4, 49, 125), (4, 55, 85), (4, 59, 89), (4, 77, 82), (4, 81, 91), (4, 92, 148), (4, 95, 72), (4, 98, 73), (4, 120, 100), (4, 131, 74), (4, 135, 79), (4, 138, 94), (4, 141, 90), (4, 144, 92), (4, 147, 76), (4, 150, 77), (4, 154, 93), (4, 157, 101), (4, 160, 83), (4, 164, 86), (4, 170, 95), (4, 173, 71), (4, 177, 96), (4, 180, 99), (5, 32, 105), (5, 35, 104), (5, 39, 120), (5, 47, 113), (5, 62, 63), (5, 66, 109), (5, 70, 121), (5, 74, 103), (5, 78, 107), (5, 81, 116), (5, 84, 118), (5, 88, 119), (5, 91, 111), (5, 94, 122), (5, 98, 112), (5, 102, 110), (5, 105, 114), (5, 109, 106), (5, 115, 115), (6, 35, 56), (6, 39, 143), (6, 45, 107), (6, 69, 46), (6, 73, 144), (6, 91, 148), (6, 95, 125), (6, 102, 123), (6, 106, 129), (6, 110, 150), (6, 118, 55), (6, 122, 140), (6, 126, 54), (6, 130, 130), (6, 136, 59), (6, 151, 49), (6, 154, 137), (6, 158, 153), (6, 162, 142), (6, 165, 128), (6, 169, 126), (6, 172, 79), (6, 177, 95), (6, 180, 141), (6, 184, 73), (6, 190, 58), (6, 199, 101), (6, 202, 83), (7, 27, 145), (7, 31, 154), (7, 41, 148), (7, 44, 147), (8, 38, 66), (8, 64, 62), (8, 68, 117), (8, 75, 139), (8, 79, 65), (8, 120, 132), (8, 132, 162), (8, 135, 125), (8, 139, 45), (8, 143, 50), (8, 146, 163), (8, 152, 47), (8, 155, 54), (8, 163, 165), (8, 166, 167), (8, 169, 67), (8, 173, 131), (8, 178, 134), (8, 185, 166), (8, 189, 168), (8, 192, 144), (8, 196, 150), (8, 200, 221), (8, 208, 152), (8, 215, 195), (8, 219, 138), (8, 223, 142), (8, 235, 164), (8, 238, 146), (8, 241, 98), (8, 244, 148), (8, 248, 88), (8, 250, 79), (8, 255, 93), (8, 258, 169), (8, 261, 83), (8, 265, 75), (8, 269, 87), (8, 272, 70), (8, 276, 81), (8, 288, 151), (8, 294, 80), (8, 301, 96), (8, 305, 203), (8, 309, 73), (8, 315, 100), (8, 319, 99), (8, 324, 71), (8, 327, 97), (8, 331, 129), (8, 335, 179), (8, 339, 102), (8, 343, 161), (8, 346, 143), (8, 347, 135), (8, 351, 84), (8, 355, 136), (8, 358, 127), (8, 360, 124), (8, 364, 57), (8, 372, 44), (8, 392, 60), (8, 395, 61), (8, 398, 63), (8, 401, 69), (8, 427, 53), (9, 54, 246), (9, 57, 247), (9, 76, 249), (9, 82, 303), (9, 86, 318), (9, 90, 340), (9, 94, 335), (9, 98, 327), (9, 104, 240), (9, 108, 236), (9, 119, 277), (9, 123, 272), (9, 126, 338), (9, 129, 333), (9, 132, 275), (9, 136, 286), (9, 140, 290), (9, 143, 289), (9, 146, 278), (9, 149, 288), (9, 154, 342), (9, 160, 238), (9, 163, 267), (9, 170, 245), (9, 196, 355), (9, 209, 259), (9, 212, 235), (9, 218, 339), (9, 224, 348), (9, 236, 273), (9, 240, 314), (9, 248, 315), (9, 258, 316), (9, 261, 317), (9, 273, 258), (9, 277, 265), (9, 280, 298), (9, 285, 302), (9, 288, 256), (9, 291, 270), (9, 294, 320), (9, 297, 266), (9, 304, 291), (9, 307, 241), (9, 310, 308), (9, 314, 279), (9, 317, 253), (9, 320, 271), (9, 324, 312), (9, 328, 299), (9, 331, 349), (9, 334, 347), (9, 338, 343), (9, 341, 287), (9, 344, 332), (9, 347, 300), (9, 350, 262), (9, 355, 261), (9, 358, 301), (9, 364, 260), (9, 368, 296), (9, 374, 323), (9, 378, 282), (9, 384, 351), (9, 388, 353), (9, 395, 305), (9, 398, 284), (9, 401, 280), (9, 404, 354), (9, 410, 366), (9, 413, 367), (10, 7, 171), (10, 15, 157), (10, 21, 170), (10, 26, 176), (10, 29, 204), (10, 33, 180), (10, 36, 184), (10, 39, 198), (10, 43, 229), (10, 49, 207), (10, 52, 213), (10, 55, 212), (10, 58, 222), (10, 61, 191), (10, 64, 216), (10, 67, 217), (10, 70, 172), (10, 74, 181), (10, 77, 183), (10, 81, 173), (10, 84, 220), (10, 87, 196), (10, 90, 202), (10, 94, 215), (10, 97, 160), (10, 100, 193), (10, 103, 185), (10, 107, 230), (10, 110, 225), (10, 113, 186), (10, 117, 190), (10, 120, 224), (10, 123, 227), (10, 126, 219), (10, 130, 231), (10, 133, 232), (10, 136, 159), (10, 139, 214), (10, 142, 155), (10, 145, 188), (10, 148, 206), (10, 151, 182), (10, 154, 268), (10, 155, 156), (10, 159, 237), (10, 160, 226), (10, 163, 358), (10, 164, 187), (10, 167, 283), (10, 168, 177), (10, 171, 255), (10, 172, 178), (10, 175, 257), (10, 176, 5), (10, 181, 250), (10, 182, 1), (10, 185, 239), (10, 186, 4), (10, 188, 248), (10, 189, 8), (10, 191, 254), (10, 192, 22), (10, 194, 319), (10, 195, 223), (10, 199, 352), (10, 200, 9), (10, 202, 263), (10, 203, 12), (10, 205, 274), (10, 206, 20), (10, 209, 309), (10, 210, 37), (10, 213, 361), (10, 214, 24), (10, 216, 324), (10, 217, 205), (10, 220, 321), (10, 221, 210), (10, 225, 328), (10, 226, 211), (10, 229, 329), (10, 230, 26), (10, 232, 331), (10, 233, 25), (10, 235, 330), (10, 236, 33), (10, 238, 350), (10, 239, 17), (10, 241, 294), (10, 242, 29), (10, 244, 337), (10, 245, 30), (10, 247, 341), (10, 248, 6), (10, 251, 251), (10, 252, 10), (10, 254, 264), (10, 255, 368), (10, 258, 208), (10, 261, 325), (10, 262, 11), (10, 265, 269), (10, 266, 7), (10, 268, 252), (10, 269, 32), (10, 271, 346), (10, 272, 19), (10, 274, 306), (10, 275, 21), (10, 278, 313), (10, 279, 28), (10, 281, 336), (10, 282, 218), (10, 285, 344), (10, 286, 3), (10, 288, 244), (10, 289, 192), (10, 292, 295), (10, 293, 18), (10, 295, 297), (10, 296, 13), (10, 298, 276), (10, 299, 38), (10, 301, 362), (10, 302, 35), (10, 304, 357), (10, 305, 14), (10, 307, 281), (10, 308, 199), (10, 312, 310), (10, 313, 16), (10, 315, 293), (10, 316, 34), (10, 318, 356), (10, 319, 36), (10, 321, 359), (10, 322, 200), (10, 325, 311), (10, 326, 31), (10, 328, 345), (10, 329, 233), (10, 332, 365), (10, 333, 39), (10, 335, 363), (10, 336, 40), (10, 338, 364), (10, 339, 158), (10, 342, 242), (10, 343, 2), (10, 345, 243), (10, 346, 27), (10, 348, 334), (10, 349, 0), (10, 351, 234), (10, 352, 189), (10, 355, 292), (10, 356, 15), (10, 358, 285), (10, 359, 197), (10, 362, 307), (10, 363, 194), (10, 366, 304), (10, 367, 228), (10, 370, 360), (10, 371, 209), (10, 374, 326), (10, 375, 23), (10, 377, 322)]
def q_NS : List (Nat × Nat × Nat) := [(1, 57, 175), (2, 23, 201), (4, 63, 175), (4, 73, 174), (4, 114, 201), (5, 25, 175), (5, 43, 174), (6, 115, 201), (7, 19, 175), (7, 23, 174)]
def q_NI : List (Nat × Nat × Nat) := [(1, 42, 43), (3, 17, 133), (6, 11, 48), (6, 26, 149), (8, 9, 64), (8, 18, 108), (8, 25, 133), (8, 45, 78), (8, 52, 149)]
def q_GS : List (Nat × Nat × Nat) := [(5, 112, 1), (5, 118, 2)]
def q_WL : List (Nat × Nat × Nat) := [(5, 121, 0), (5, 123, 1), (5, 125, 2), (5, 127, 3), (5, 129, 4), (5, 130, 5), (5, 132, 6), (9, 234, 0), (9, 243, 1), (9, 245, 2), (9, 247, 3), (9, 252, 4), (9, 254, 5), (9, 256, 6)]
def q_CD : List (Nat × Nat × Int) := [(4, 168, 4611686018427387904), (9, 372, 4611686018427387904)]
def q_MJ : List (Nat × Nat × Nat) := [(7, 48, 10), (7, 50, 11), (9, 361, 12)]
def q_SM : List (Nat × Nat × Nat) := [(5, 134, 1), (5, 139, 2), (9, 200, 1), (9, 205, 2)]
def q_OL : List (Nat × Nat) := [(0, 1), (1, 3), (2, 3), (3, 3), (4, 3), (5, 3), (6, 3), (7, 3), (8, 1), (9, 1)]
def q_MM : List (Nat × Nat × Nat) := [(3, 33, 7), (4, 67, 7), (4, 101, 8), (4, 105, 6), (6, 145, 8), (7, 35, 6), (8, 280, 6), (8, 285, 7), (8, 312, 8), (9, 111, 6), (9, 116, 7)]
def q_CI : List (Nat × Nat × Int) := [(4, 110, 2147483647), (4, 153, 1000000), (6, 114, 1000000)]
def q_CJ : List (Nat × Nat × Int) := [(6, 134, 4), (8, 299, 1000000), (9, 63, 100), (9, 65, 200), (9, 67, 1000), (9, 69, 5), (9, 71, 2), (9, 80, 1000000), (9, 102, 4), (9, 152, 3), (9, 182, 97), (9, 184, 122), (9, 186, 48), (9, 188, 57), (9, 222, 2000), (9, 228, 20), (9, 230, 5000), (9, 232, 500), (9, 271, 6), (9, 283, 12), (9, 300, (-100)), (9, 302, 16), (9, 353, 7), (9, 382, (-1))]
def q_TH : List (Nat × Nat × Nat × Nat) := [(8, 125, 0, 129), (8, 203, 3, 207), (8, 404, 2, 408), (8, 409, 1, 413)]
def q_SL : List (Nat × Nat) := [(8, 127), (8, 176), (8, 205), (8, 211), (8, 213), (8, 226), (8, 231), (8, 233), (8, 253), (8, 292), (8, 322), (8, 406), (8, 411), (8, 414), (8, 419), (8, 421), (8, 423), (8, 425), (8, 431), (8, 433), (8, 435)]
def q_VL : List Nat := [41, 42, 44, 45, 46, 47, 49, 50, 51, 52, 53, 54, 55, 56, 57, 58, 59, 60, 61, 62, 63, 65, 67, 68, 69, 70, 71, 73, 74, 75, 76, 77, 79, 80, 81, 82, 83, 84, 85, 86, 87, 88, 89, 90, 91, 92, 93, 94, 95, 96, 97, 98, 99, 100, 101, 102, 103, 104, 105, 106, 107, 113, 114, 115, 117, 118, 119, 120, 121, 123, 124, 125, 126, 127, 128, 129, 130, 131, 132, 134, 135, 136, 137, 138, 139, 140, 141, 142, 143, 144, 145, 146, 148, 150, 151, 152, 153, 154, 155, 156, 157, 158, 159, 160, 161, 162, 163, 164, 165, 166, 167, 168, 169, 170, 171, 172, 173, 176, 177, 178, 179, 180, 181, 183, 184, 185, 186, 187, 188, 189, 190, 191, 192, 193, 194, 195, 196, 197, 198, 199, 200, 202, 204, 205, 206, 207, 208, 209, 210, 211, 212, 213, 214, 215, 216, 217, 218, 219, 220, 221, 222, 223, 224, 225, 226, 227, 228, 229, 230, 231, 232, 233, 234, 235, 237, 238, 239, 240, 241, 242, 243, 244, 245, 246, 247, 248, 250, 251, 252, 253, 254, 255, 256, 257, 258, 259, 261, 262, 263, 264, 265, 266, 269, 270, 271, 272, 273, 274, 275, 276, 277, 278, 279, 280, 281, 282, 283, 284, 285, 286, 287, 288, 289, 290, 291, 292, 293, 294, 295, 296, 297, 298, 299, 300, 301, 302, 303, 304, 305, 306, 307, 308, 309, 310, 311, 312, 313, 314, 315, 316, 317, 318, 319, 320, 321, 322, 324, 325, 326, 327, 328, 329, 330, 331, 332, 334, 335, 336, 337, 338, 339, 340, 341, 342, 343, 344, 345, 346, 347, 348, 349, 350, 351, 352, 353, 354, 355, 356, 357, 358, 359, 360, 361, 362, 363, 364, 365, 366, 367, 368]
def q_ST : List Nat := [0, 1, 2, 3, 4, 5, 6, 7, 8, 9, 10, 11, 12, 13, 14, 15, 16, 17, 18, 19, 20, 21, 22, 23, 24, 25, 26, 27, 28, 29, 30, 31, 32, 33, 34, 35, 36, 37, 38, 39, 40, 72, 109, 110, 111, 112, 116, 122, 147, 174, 175, 201, 203, 236, 249, 260, 267, 323, 333]
def q_IL : List Nat := [43, 48, 64, 66, 78, 108, 133, 149, 182, 268]
def q_mxf : MethodName := ⟨"java/lang/Math", "max", "(FF)F"⟩
def q_sln : MethodName := ⟨"java/lang/String", "length", "()I"⟩
def q_sca : MethodName := ⟨"java/lang/String", "charAt", "(I)C"⟩
def q_su : String := "StepperTable$Setup"
def q_sf (n : Nat) : String := match n with
  | 1 => "LEAST"
  | _ => "GREATEST"
def q_sg (n : Nat) : List Cond := match n with
  | 0 => k2_sels lw_privs
  | 1 => tables_1_1
  | 2 => tables_1_2
  | 3 => tables_1_3
  | 4 => tables_1_4
  | 5 => tables_1_5
  | 6 => tables_1_6
  | 7 => tables_1_7
  | 8 => tables_1_8
  | _ => tables_1_9
theorem q_sg_in : ∀ n, ∀ w ∈ q_sg n, w ∈ lw_tbl := by
  intro n w hw
  have hT : ∀ w ∈ tables_1, w ∈ lw_tbl := fun w h => List.mem_append_right _ h
  match n, hw with
  | 0, hw => exact List.mem_append_left _ hw
  | 1, hw => exact hT w (List.mem_append_left _ hw)
  | 2, hw => exact hT w (List.mem_append_right _ (List.mem_append_left _ hw))
  | 3, hw => exact hT w (List.mem_append_right _ (List.mem_append_right _ (List.mem_append_left _ hw)))
  | 4, hw => exact hT w (List.mem_append_right _ (List.mem_append_right _ (List.mem_append_right _ (List.mem_append_left _ hw))))
  | 5, hw => exact hT w (List.mem_append_right _ (List.mem_append_right _ (List.mem_append_right _ (List.mem_append_right _ (List.mem_append_left _ hw)))))
  | 6, hw => exact hT w (List.mem_append_right _ (List.mem_append_right _ (List.mem_append_right _ (List.mem_append_right _ (List.mem_append_right _ (List.mem_append_left _ hw))))))
  | 7, hw => exact hT w (List.mem_append_right _ (List.mem_append_right _ (List.mem_append_right _ (List.mem_append_right _ (List.mem_append_right _ (List.mem_append_right _ (List.mem_append_left _ hw)))))))
  | 8, hw => exact hT w (List.mem_append_right _ (List.mem_append_right _ (List.mem_append_right _ (List.mem_append_right _ (List.mem_append_right _ (List.mem_append_right _ (List.mem_append_right _ (List.mem_append_left _ hw))))))))
  | n + 9, hw => exact hT w (List.mem_append_right _ (List.mem_append_right _ (List.mem_append_right _ (List.mem_append_right _ (List.mem_append_right _ (List.mem_append_right _ (List.mem_append_right _ (List.mem_append_right _ hw))))))))
theorem q_gp (ws : List Cond) (ps : List (Nat × Nat)) (h1 : ws = ps.filterMap (fun q => (q_sg q.1)[q.2]?)) (h2 : ws.all goodWord = true) : GoodIn lw_tbl ws := by
  intro w hw
  have h3 := List.all_eq_true.mp h2 w hw
  rw [h1] at hw
  obtain ⟨q, -, hq⟩ := List.mem_filterMap.mp hw
  exact ⟨q_sg_in _ _ (List.mem_of_getElem? hq), good_of_word h3⟩
def q_In (ws : List Cond) : Prop := ∀ w ∈ ws, ∃ a b : Nat, (q_sg a)[b]? = some w
theorem q_In0 : q_In [] := fun w h => by cases h
theorem q_In1 {w : Cond} {ws : List Cond} (a b : Nat) (h : (q_sg a)[b]? = some w) (H : q_In ws) : q_In (w :: ws) := fun v hv => (List.mem_cons.mp hv).elim (fun e => ⟨a, b, e ▸ h⟩) (H v)
theorem q_gq {ws : List Cond} (h1 : q_In ws) (h2 : ws.all goodWord = true) : GoodIn lw_tbl ws := by
  intro w hw
  obtain ⟨a, b, h⟩ := h1 w hw
  exact ⟨q_sg_in _ _ (List.mem_of_getElem? h), good_of_word (List.all_eq_true.mp h2 w hw)⟩
