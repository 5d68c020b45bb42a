-- ===== PART A: goes FIRST, ahead of the names: the tables' words, and 'selects' of the private methods out of them =====
/-- a private method of a class that the tables say can be made, by its rows of tables_1 -/
def lw_okq (q : MethodName × Nat) : Prop := (q.1.cls ≠ "java/lang/invoke/MethodHandle" ∧ q.1.cls ≠ "java/lang/invoke/VarHandle") ∧ Cond.instantiable q.1.cls q.2 ∈ tables_1 ∧ Cond.privateMethod q.1 ∈ tables_1 ∧ Cond.instanceMethod q.1 ∈ tables_1
def lw_sg (n : Nat) : List Cond := match n with
  | 1 => tables_1_1
  | 2 => tables_1_2
  | 3 => tables_1_3
  | 4 => tables_1_4
  | 5 => tables_1_5
  | 6 => tables_1_6
  | 7 => tables_1_7
  | 8 => tables_1_8
  | _ => tables_1_9
theorem lw_at (n k : Nat) {w : Cond} (h : (lw_sg n)[k]? = some w) : w ∈ tables_1 := by
  have hw := List.mem_of_getElem? h
  match n, hw with
  | 1, hw => exact List.mem_append_left _ hw
  | 2, hw => exact List.mem_append_right _ (List.mem_append_left _ hw)
  | 3, hw => exact List.mem_append_right _ (List.mem_append_right _ (List.mem_append_left _ hw))
  | 4, hw => exact List.mem_append_right _ (List.mem_append_right _ (List.mem_append_right _ (List.mem_append_left _ hw)))
  | 5, hw => exact List.mem_append_right _ (List.mem_append_right _ (List.mem_append_right _ (List.mem_append_right _ (List.mem_append_left _ hw))))
  | 6, hw => exact List.mem_append_right _ (List.mem_append_right _ (List.mem_append_right _ (List.mem_append_right _ (List.mem_append_right _ (List.mem_append_left _ hw)))))
  | 7, hw => exact List.mem_append_right _ (List.mem_append_right _ (List.mem_append_right _ (List.mem_append_right _ (List.mem_append_right _ (List.mem_append_right _ (List.mem_append_left _ hw))))))
  | 8, hw => exact List.mem_append_right _ (List.mem_append_right _ (List.mem_append_right _ (List.mem_append_right _ (List.mem_append_right _ (List.mem_append_right _ (List.mem_append_right _ (List.mem_append_left _ hw)))))))
  | 0, hw => exact List.mem_append_right _ (List.mem_append_right _ (List.mem_append_right _ (List.mem_append_right _ (List.mem_append_right _ (List.mem_append_right _ (List.mem_append_right _ (List.mem_append_right _ (hw))))))))
  | n + 9, hw => exact List.mem_append_right _ (List.mem_append_right _ (List.mem_append_right _ (List.mem_append_right _ (List.mem_append_right _ (List.mem_append_right _ (List.mem_append_right _ (List.mem_append_right _ (hw))))))))
theorem lw_n0 : ("StepperTable" : String) ≠ "java/lang/invoke/MethodHandle" ∧ ("StepperTable" : String) ≠ "java/lang/invoke/VarHandle" := ⟨by decide +kernel, by decide +kernel⟩
theorem lw_n1 : ("StepperTable$Axis" : String) ≠ "java/lang/invoke/MethodHandle" ∧ ("StepperTable$Axis" : String) ≠ "java/lang/invoke/VarHandle" := ⟨by decide +kernel, by decide +kernel⟩
theorem lw_n2 : ("StepperTable$History" : String) ≠ "java/lang/invoke/MethodHandle" ∧ ("StepperTable$History" : String) ≠ "java/lang/invoke/VarHandle" := ⟨by decide +kernel, by decide +kernel⟩
theorem lw_n3 : ("StepperTable$Plan" : String) ≠ "java/lang/invoke/MethodHandle" ∧ ("StepperTable$Plan" : String) ≠ "java/lang/invoke/VarHandle" := ⟨by decide +kernel, by decide +kernel⟩
theorem lw_n4 : ("StepperTable$Setup" : String) ≠ "java/lang/invoke/MethodHandle" ∧ ("StepperTable$Setup" : String) ≠ "java/lang/invoke/VarHandle" := ⟨by decide +kernel, by decide +kernel⟩
theorem lw_n5 : ("StepperTable$Table" : String) ≠ "java/lang/invoke/MethodHandle" ∧ ("StepperTable$Table" : String) ≠ "java/lang/invoke/VarHandle" := ⟨by decide +kernel, by decide +kernel⟩
theorem lw_n6 : ("StepperTable$Targets" : String) ≠ "java/lang/invoke/MethodHandle" ∧ ("StepperTable$Targets" : String) ≠ "java/lang/invoke/VarHandle" := ⟨by decide +kernel, by decide +kernel⟩
theorem lw_n7 : ("StepperTableModel" : String) ≠ "java/lang/invoke/MethodHandle" ∧ ("StepperTableModel" : String) ≠ "java/lang/invoke/VarHandle" := ⟨by decide +kernel, by decide +kernel⟩
theorem lw_n8 : ("java/lang/Throwable" : String) ≠ "java/lang/invoke/MethodHandle" ∧ ("java/lang/Throwable" : String) ≠ "java/lang/invoke/VarHandle" := ⟨by decide +kernel, by decide +kernel⟩
set_option maxRecDepth 8000 in
theorem lw_p0 : lw_okq (⟨"StepperTable$Setup", "forget", "()V"⟩, 7) := ⟨lw_n4, lw_at 1 50 rfl, lw_at 2 135 rfl, lw_at 2 136 rfl⟩
set_option maxRecDepth 8000 in
theorem lw_p1 : lw_okq (⟨"StepperTable$Setup", "keep", "(III)V"⟩, 7) := ⟨lw_n4, lw_at 1 50 rfl, lw_at 2 142 rfl, lw_at 2 143 rfl⟩
set_option maxRecDepth 8000 in
theorem lw_p2 : lw_okq (⟨"StepperTable$Setup", "findToken", "(LStepperTable$Bytes;)Z"⟩, 7) := ⟨lw_n4, lw_at 1 50 rfl, lw_at 2 146 rfl, lw_at 2 147 rfl⟩
set_option maxRecDepth 8000 in
theorem lw_p3 : lw_okq (⟨"StepperTable$Setup", "readStatement", "(LStepperTable$Bytes;)V"⟩, 7) := ⟨lw_n4, lw_at 1 50 rfl, lw_at 2 157 rfl, lw_at 2 158 rfl⟩
set_option maxRecDepth 8000 in
theorem lw_p4 : lw_okq (⟨"StepperTable$Setup", "readWord", "(LStepperTable$Bytes;)I"⟩, 7) := ⟨lw_n4, lw_at 1 50 rfl, lw_at 2 161 rfl, lw_at 2 162 rfl⟩
set_option maxRecDepth 8000 in
theorem lw_p5 : lw_okq (⟨"StepperTable$Setup", "fail", "(II)V"⟩, 7) := ⟨lw_n4, lw_at 1 50 rfl, lw_at 2 229 rfl, lw_at 2 230 rfl⟩
set_option maxRecDepth 8000 in
theorem lw_p6 : lw_okq (⟨"StepperTable$Setup", "readNumber", "(LStepperTable$Bytes;II)V"⟩, 7) := ⟨lw_n4, lw_at 1 50 rfl, lw_at 3 0 rfl, lw_at 3 1 rfl⟩
set_option maxRecDepth 8000 in
theorem lw_p7 : lw_okq (⟨"StepperTable$Setup", "least", "(II)I"⟩, 7) := ⟨lw_n4, lw_at 1 50 rfl, lw_at 3 7 rfl, lw_at 3 8 rfl⟩
set_option maxRecDepth 8000 in
theorem lw_p8 : lw_okq (⟨"StepperTable$Setup", "greatest", "(II)I"⟩, 7) := ⟨lw_n4, lw_at 1 50 rfl, lw_at 3 16 rfl, lw_at 3 17 rfl⟩
set_option maxRecDepth 8000 in
theorem lw_p9 : lw_okq (⟨"StepperTable$Setup", "readSemicolon", "(LStepperTable$Bytes;)V"⟩, 7) := ⟨lw_n4, lw_at 1 50 rfl, lw_at 3 26 rfl, lw_at 3 27 rfl⟩
set_option maxRecDepth 8000 in
theorem lw_p10 : lw_okq (⟨"StepperTable$History", "slot", "(I)LStepperTable$Table;"⟩, 3) := ⟨lw_n2, lw_at 2 17 rfl, lw_at 3 73 rfl, lw_at 3 74 rfl⟩
set_option maxRecDepth 8000 in
theorem lw_p11 : lw_okq (⟨"StepperTable", "planned", "()LStepperTable$Plan;"⟩, 10) := ⟨lw_n0, lw_at 1 26 rfl, lw_at 3 114 rfl, lw_at 3 115 rfl⟩
set_option maxRecDepth 8000 in
theorem lw_p12 : lw_okq (⟨"StepperTable$Plan", "measure", "(LStepperTable$Axis;LStepperTable$Targets;I)V"⟩, 11) := ⟨lw_n3, lw_at 2 37 rfl, lw_at 3 126 rfl, lw_at 3 127 rfl⟩
set_option maxRecDepth 8000 in
theorem lw_p13 : lw_okq (⟨"StepperTable$Plan", "rate", "(LStepperTable$Table;I)V"⟩, 11) := ⟨lw_n3, lw_at 2 37 rfl, lw_at 3 138 rfl, lw_at 3 139 rfl⟩
set_option maxRecDepth 8000 in
theorem lw_p14 : lw_okq (⟨"StepperTable$Plan", "link", "(I)V"⟩, 11) := ⟨lw_n3, lw_at 2 37 rfl, lw_at 3 162 rfl, lw_at 3 163 rfl⟩
set_option maxRecDepth 8000 in
theorem lw_p15 : lw_okq (⟨"StepperTable$Plan", "goesStraight", "(I)Z"⟩, 11) := ⟨lw_n3, lw_at 2 37 rfl, lw_at 3 166 rfl, lw_at 3 167 rfl⟩
def lw_privs_1 : List (MethodName × Nat) := [(⟨"StepperTable$Setup", "forget", "()V"⟩, 7), (⟨"StepperTable$Setup", "keep", "(III)V"⟩, 7), (⟨"StepperTable$Setup", "findToken", "(LStepperTable$Bytes;)Z"⟩, 7), (⟨"StepperTable$Setup", "readStatement", "(LStepperTable$Bytes;)V"⟩, 7), (⟨"StepperTable$Setup", "readWord", "(LStepperTable$Bytes;)I"⟩, 7), (⟨"StepperTable$Setup", "fail", "(II)V"⟩, 7), (⟨"StepperTable$Setup", "readNumber", "(LStepperTable$Bytes;II)V"⟩, 7), (⟨"StepperTable$Setup", "least", "(II)I"⟩, 7), (⟨"StepperTable$Setup", "greatest", "(II)I"⟩, 7), (⟨"StepperTable$Setup", "readSemicolon", "(LStepperTable$Bytes;)V"⟩, 7), (⟨"StepperTable$History", "slot", "(I)LStepperTable$Table;"⟩, 3), (⟨"StepperTable", "planned", "()LStepperTable$Plan;"⟩, 10), (⟨"StepperTable$Plan", "measure", "(LStepperTable$Axis;LStepperTable$Targets;I)V"⟩, 11), (⟨"StepperTable$Plan", "rate", "(LStepperTable$Table;I)V"⟩, 11), (⟨"StepperTable$Plan", "link", "(I)V"⟩, 11), (⟨"StepperTable$Plan", "goesStraight", "(I)Z"⟩, 11)]
theorem lw_r1 : ∀ q ∈ lw_privs_1, lw_okq q := List.forall_mem_cons.mpr ⟨lw_p0, List.forall_mem_cons.mpr ⟨lw_p1, List.forall_mem_cons.mpr ⟨lw_p2, List.forall_mem_cons.mpr ⟨lw_p3, List.forall_mem_cons.mpr ⟨lw_p4, List.forall_mem_cons.mpr ⟨lw_p5, List.forall_mem_cons.mpr ⟨lw_p6, List.forall_mem_cons.mpr ⟨lw_p7, List.forall_mem_cons.mpr ⟨lw_p8, List.forall_mem_cons.mpr ⟨lw_p9, List.forall_mem_cons.mpr ⟨lw_p10, List.forall_mem_cons.mpr ⟨lw_p11, List.forall_mem_cons.mpr ⟨lw_p12, List.forall_mem_cons.mpr ⟨lw_p13, List.forall_mem_cons.mpr ⟨lw_p14, List.forall_mem_cons.mpr ⟨lw_p15, fun _ h => absurd h List.not_mem_nil⟩⟩⟩⟩⟩⟩⟩⟩⟩⟩⟩⟩⟩⟩⟩⟩
set_option maxRecDepth 8000 in
theorem lw_p16 : lw_okq (⟨"StepperTable$Plan", "smooth", "()V"⟩, 11) := ⟨lw_n3, lw_at 2 37 rfl, lw_at 3 174 rfl, lw_at 3 175 rfl⟩
set_option maxRecDepth 8000 in
theorem lw_p17 : lw_okq (⟨"StepperTable$Plan", "reach", "(I)I"⟩, 11) := ⟨lw_n3, lw_at 2 37 rfl, lw_at 3 182 rfl, lw_at 3 183 rfl⟩
set_option maxRecDepth 8000 in
theorem lw_p18 : lw_okq (⟨"StepperTable$Table", "makeMove", "(LStepperTable$Plan;I)Z"⟩, 11) := ⟨lw_n5, lw_at 1 83 rfl, lw_at 3 194 rfl, lw_at 3 195 rfl⟩
set_option maxRecDepth 8000 in
theorem lw_p19 : lw_okq (⟨"StepperTable$Table", "countReversals", "(LStepperTable$Plan;I)V"⟩, 11) := ⟨lw_n5, lw_at 1 83 rfl, lw_at 3 198 rfl, lw_at 3 199 rfl⟩
set_option maxRecDepth 8000 in
theorem lw_p20 : lw_okq (⟨"StepperTable$Table", "compensate", "(LStepperTable$Plan;I)Z"⟩, 11) := ⟨lw_n5, lw_at 1 83 rfl, lw_at 3 208 rfl, lw_at 3 209 rfl⟩
set_option maxRecDepth 8000 in
theorem lw_p21 : lw_okq (⟨"StepperTable$Axis", "pushForward", "()Z"⟩, 15) := ⟨lw_n1, lw_at 1 89 rfl, lw_at 3 226 rfl, lw_at 3 227 rfl⟩
set_option maxRecDepth 8000 in
theorem lw_p22 : lw_okq (⟨"StepperTable$Axis", "pushBackward", "()Z"⟩, 15) := ⟨lw_n1, lw_at 1 89 rfl, lw_at 3 230 rfl, lw_at 3 231 rfl⟩
set_option maxRecDepth 8000 in
theorem lw_p23 : lw_okq (⟨"StepperTable$Table", "stepAxes", "(LStepperTable$Plan;II)Z"⟩, 11) := ⟨lw_n5, lw_at 1 83 rfl, lw_at 4 4 rfl, lw_at 4 5 rfl⟩
set_option maxRecDepth 8000 in
theorem lw_p24 : lw_okq (⟨"StepperTable$Targets", "copyTarget", "(II)V"⟩, 2) := ⟨lw_n6, lw_at 1 195 rfl, lw_at 4 16 rfl, lw_at 4 17 rfl⟩
set_option maxRecDepth 8000 in
theorem lw_p25 : lw_okq (⟨"StepperTable", "forecast", "()LStepperTable$Table;"⟩, 10) := ⟨lw_n0, lw_at 1 26 rfl, lw_at 4 90 rfl, lw_at 4 91 rfl⟩
set_option maxRecDepth 8000 in
theorem lw_p26 : lw_okq (⟨"StepperTable$Table", "addUnlessThere", "(LStepperTable$Targets;I)V"⟩, 11) := ⟨lw_n5, lw_at 1 83 rfl, lw_at 4 103 rfl, lw_at 4 104 rfl⟩
set_option maxRecDepth 8000 in
theorem lw_p27 : lw_okq (⟨"java/lang/Throwable", "fillInStackTrace", "(I)Ljava/lang/Throwable;"⟩, 6) := ⟨lw_n8, lw_at 4 202 rfl, lw_at 4 200 rfl, lw_at 4 201 rfl⟩
set_option maxRecDepth 8000 in
theorem lw_p28 : lw_okq (⟨"StepperTable", "checkAxis", "(I)V"⟩, 10) := ⟨lw_n0, lw_at 1 26 rfl, lw_at 4 239 rfl, lw_at 5 0 rfl⟩
set_option maxRecDepth 8000 in
theorem lw_p29 : lw_okq (⟨"StepperTable", "checkHomed", "(I)V"⟩, 10) := ⟨lw_n0, lw_at 1 26 rfl, lw_at 5 36 rfl, lw_at 5 37 rfl⟩
set_option maxRecDepth 8000 in
theorem lw_p30 : lw_okq (⟨"StepperTable", "checkNoAlarm", "()V"⟩, 10) := ⟨lw_n0, lw_at 1 26 rfl, lw_at 5 85 rfl, lw_at 5 86 rfl⟩
set_option maxRecDepth 8000 in
theorem lw_p31 : lw_okq (⟨"StepperTable", "checkQueueEmpty", "()V"⟩, 10) := ⟨lw_n0, lw_at 1 26 rfl, lw_at 5 90 rfl, lw_at 5 91 rfl⟩
def lw_privs_2 : List (MethodName × Nat) := [(⟨"StepperTable$Plan", "smooth", "()V"⟩, 11), (⟨"StepperTable$Plan", "reach", "(I)I"⟩, 11), (⟨"StepperTable$Table", "makeMove", "(LStepperTable$Plan;I)Z"⟩, 11), (⟨"StepperTable$Table", "countReversals", "(LStepperTable$Plan;I)V"⟩, 11), (⟨"StepperTable$Table", "compensate", "(LStepperTable$Plan;I)Z"⟩, 11), (⟨"StepperTable$Axis", "pushForward", "()Z"⟩, 15), (⟨"StepperTable$Axis", "pushBackward", "()Z"⟩, 15), (⟨"StepperTable$Table", "stepAxes", "(LStepperTable$Plan;II)Z"⟩, 11), (⟨"StepperTable$Targets", "copyTarget", "(II)V"⟩, 2), (⟨"StepperTable", "forecast", "()LStepperTable$Table;"⟩, 10), (⟨"StepperTable$Table", "addUnlessThere", "(LStepperTable$Targets;I)V"⟩, 11), (⟨"java/lang/Throwable", "fillInStackTrace", "(I)Ljava/lang/Throwable;"⟩, 6), (⟨"StepperTable", "checkAxis", "(I)V"⟩, 10), (⟨"StepperTable", "checkHomed", "(I)V"⟩, 10), (⟨"StepperTable", "checkNoAlarm", "()V"⟩, 10), (⟨"StepperTable", "checkQueueEmpty", "()V"⟩, 10)]
theorem lw_r2 : ∀ q ∈ lw_privs_2, lw_okq q := List.forall_mem_cons.mpr ⟨lw_p16, List.forall_mem_cons.mpr ⟨lw_p17, List.forall_mem_cons.mpr ⟨lw_p18, List.forall_mem_cons.mpr ⟨lw_p19, List.forall_mem_cons.mpr ⟨lw_p20, List.forall_mem_cons.mpr ⟨lw_p21, List.forall_mem_cons.mpr ⟨lw_p22, List.forall_mem_cons.mpr ⟨lw_p23, List.forall_mem_cons.mpr ⟨lw_p24, List.forall_mem_cons.mpr ⟨lw_p25, List.forall_mem_cons.mpr ⟨lw_p26, List.forall_mem_cons.mpr ⟨lw_p27, List.forall_mem_cons.mpr ⟨lw_p28, List.forall_mem_cons.mpr ⟨lw_p29, List.forall_mem_cons.mpr ⟨lw_p30, List.forall_mem_cons.mpr ⟨lw_p31, fun _ h => absurd h List.not_mem_nil⟩⟩⟩⟩⟩⟩⟩⟩⟩⟩⟩⟩⟩⟩⟩⟩
set_option maxRecDepth 8000 in
theorem lw_p32 : lw_okq (⟨"StepperTable$Table", "failHoming", "(LStepperTable$Axis;I)I"⟩, 11) := ⟨lw_n5, lw_at 1 83 rfl, lw_at 5 106 rfl, lw_at 5 107 rfl⟩
set_option maxRecDepth 8000 in
theorem lw_p33 : lw_okq (⟨"StepperTable", "checkPoint", "(III)V"⟩, 10) := ⟨lw_n0, lw_at 1 26 rfl, lw_at 5 135 rfl, lw_at 5 136 rfl⟩
set_option maxRecDepth 8000 in
theorem lw_p34 : lw_okq (⟨"StepperTable", "checkRoom", "()V"⟩, 10) := ⟨lw_n0, lw_at 1 26 rfl, lw_at 5 144 rfl, lw_at 5 145 rfl⟩
set_option maxRecDepth 8000 in
theorem lw_p35 : lw_okq (⟨"StepperTable", "checkAllHomed", "()V"⟩, 10) := ⟨lw_n0, lw_at 1 26 rfl, lw_at 5 148 rfl, lw_at 5 149 rfl⟩
set_option maxRecDepth 8000 in
theorem lw_p36 : lw_okq (⟨"StepperTable", "takePath", "()I"⟩, 10) := ⟨lw_n0, lw_at 1 26 rfl, lw_at 5 156 rfl, lw_at 5 157 rfl⟩
set_option maxRecDepth 8000 in
theorem lw_p37 : lw_okq (⟨"StepperTable", "checkMove", "(I)V"⟩, 10) := ⟨lw_n0, lw_at 1 26 rfl, lw_at 5 225 rfl, lw_at 5 226 rfl⟩
set_option maxRecDepth 8000 in
theorem lw_p38 : lw_okq (⟨"StepperTable$Plan", "greatestSpeed", "(I)I"⟩, 11) := ⟨lw_n3, lw_at 2 37 rfl, lw_at 6 1 rfl, lw_at 6 2 rfl⟩
set_option maxRecDepth 8000 in
theorem lw_p39 : lw_okq (⟨"StepperTable$Plan", "greatestSteps", "(I)I"⟩, 11) := ⟨lw_n3, lw_at 2 37 rfl, lw_at 6 5 rfl, lw_at 6 6 rfl⟩
set_option maxRecDepth 8000 in
theorem lw_p40 : lw_okq (⟨"StepperTable", "checkSteps", "(II)V"⟩, 10) := ⟨lw_n0, lw_at 1 26 rfl, lw_at 6 26 rfl, lw_at 6 27 rfl⟩
set_option maxRecDepth 8000 in
theorem lw_p41 : lw_okq (⟨"StepperTable$Plan", "offLine", "(III)F"⟩, 11) := ⟨lw_n3, lw_at 2 37 rfl, lw_at 6 42 rfl, lw_at 6 43 rfl⟩
set_option maxRecDepth 8000 in
theorem lw_p42 : lw_okq (⟨"StepperTableModel", "clear", "()V"⟩, 28) := ⟨lw_n7, lw_at 7 19 rfl, lw_at 7 25 rfl, lw_at 7 26 rfl⟩
set_option maxRecDepth 8000 in
theorem lw_p43 : lw_okq (⟨"StepperTableModel", "closes", "()V"⟩, 28) := ⟨lw_n7, lw_at 7 19 rfl, lw_at 7 34 rfl, lw_at 7 35 rfl⟩
set_option maxRecDepth 8000 in
theorem lw_p44 : lw_okq (⟨"StepperTableModel", "appendWord", "(I)V"⟩, 28) := ⟨lw_n7, lw_at 7 19 rfl, lw_at 7 132 rfl, lw_at 7 133 rfl⟩
set_option maxRecDepth 8000 in
theorem lw_p45 : lw_okq (⟨"StepperTableModel", "advanceToken", "()V"⟩, 28) := ⟨lw_n7, lw_at 7 19 rfl, lw_at 7 150 rfl, lw_at 7 151 rfl⟩
set_option maxRecDepth 8000 in
theorem lw_p46 : lw_okq (⟨"StepperTableModel", "byteAt", "(I)I"⟩, 28) := ⟨lw_n7, lw_at 7 19 rfl, lw_at 7 154 rfl, lw_at 7 155 rfl⟩
set_option maxRecDepth 8000 in
theorem lw_p47 : lw_okq (⟨"StepperTableModel", "readText", "()Z"⟩, 28) := ⟨lw_n7, lw_at 7 19 rfl, lw_at 7 162 rfl, lw_at 7 163 rfl⟩
def lw_privs_3 : List (MethodName × Nat) := [(⟨"StepperTable$Table", "failHoming", "(LStepperTable$Axis;I)I"⟩, 11), (⟨"StepperTable", "checkPoint", "(III)V"⟩, 10), (⟨"StepperTable", "checkRoom", "()V"⟩, 10), (⟨"StepperTable", "checkAllHomed", "()V"⟩, 10), (⟨"StepperTable", "takePath", "()I"⟩, 10), (⟨"StepperTable", "checkMove", "(I)V"⟩, 10), (⟨"StepperTable$Plan", "greatestSpeed", "(I)I"⟩, 11), (⟨"StepperTable$Plan", "greatestSteps", "(I)I"⟩, 11), (⟨"StepperTable", "checkSteps", "(II)V"⟩, 10), (⟨"StepperTable$Plan", "offLine", "(III)F"⟩, 11), (⟨"StepperTableModel", "clear", "()V"⟩, 28), (⟨"StepperTableModel", "closes", "()V"⟩, 28), (⟨"StepperTableModel", "appendWord", "(I)V"⟩, 28), (⟨"StepperTableModel", "advanceToken", "()V"⟩, 28), (⟨"StepperTableModel", "byteAt", "(I)I"⟩, 28), (⟨"StepperTableModel", "readText", "()Z"⟩, 28)]
theorem lw_r3 : ∀ q ∈ lw_privs_3, lw_okq q := List.forall_mem_cons.mpr ⟨lw_p32, List.forall_mem_cons.mpr ⟨lw_p33, List.forall_mem_cons.mpr ⟨lw_p34, List.forall_mem_cons.mpr ⟨lw_p35, List.forall_mem_cons.mpr ⟨lw_p36, List.forall_mem_cons.mpr ⟨lw_p37, List.forall_mem_cons.mpr ⟨lw_p38, List.forall_mem_cons.mpr ⟨lw_p39, List.forall_mem_cons.mpr ⟨lw_p40, List.forall_mem_cons.mpr ⟨lw_p41, List.forall_mem_cons.mpr ⟨lw_p42, List.forall_mem_cons.mpr ⟨lw_p43, List.forall_mem_cons.mpr ⟨lw_p44, List.forall_mem_cons.mpr ⟨lw_p45, List.forall_mem_cons.mpr ⟨lw_p46, List.forall_mem_cons.mpr ⟨lw_p47, fun _ h => absurd h List.not_mem_nil⟩⟩⟩⟩⟩⟩⟩⟩⟩⟩⟩⟩⟩⟩⟩⟩
set_option maxRecDepth 8000 in
theorem lw_p48 : lw_okq (⟨"StepperTableModel", "readStatement", "()Z"⟩, 28) := ⟨lw_n7, lw_at 7 19 rfl, lw_at 7 166 rfl, lw_at 7 167 rfl⟩
set_option maxRecDepth 8000 in
theorem lw_p49 : lw_okq (⟨"StepperTableModel", "isWord", "(Ljava/lang/String;)Z"⟩, 28) := ⟨lw_n7, lw_at 7 19 rfl, lw_at 7 171 rfl, lw_at 7 172 rfl⟩
set_option maxRecDepth 8000 in
theorem lw_p50 : lw_okq (⟨"StepperTableModel", "tokenLength", "()I"⟩, 28) := ⟨lw_n7, lw_at 7 19 rfl, lw_at 7 175 rfl, lw_at 7 176 rfl⟩
set_option maxRecDepth 8000 in
theorem lw_p51 : lw_okq (⟨"StepperTableModel", "readAxis", "(I)Z"⟩, 28) := ⟨lw_n7, lw_at 7 19 rfl, lw_at 7 181 rfl, lw_at 7 182 rfl⟩
set_option maxRecDepth 8000 in
theorem lw_p52 : lw_okq (⟨"StepperTableModel", "startsOnce", "(IZ)Z"⟩, 28) := ⟨lw_n7, lw_at 7 19 rfl, lw_at 7 185 rfl, lw_at 7 186 rfl⟩
set_option maxRecDepth 8000 in
theorem lw_p53 : lw_okq (⟨"StepperTableModel", "failsAt", "(I)Z"⟩, 28) := ⟨lw_n7, lw_at 7 19 rfl, lw_at 7 189 rfl, lw_at 7 190 rfl⟩
set_option maxRecDepth 8000 in
theorem lw_p54 : lw_okq (⟨"StepperTableModel", "takesInto", "(IJJ)Z"⟩, 28) := ⟨lw_n7, lw_at 7 19 rfl, lw_at 7 194 rfl, lw_at 7 195 rfl⟩
set_option maxRecDepth 8000 in
theorem lw_p55 : lw_okq (⟨"StepperTableModel", "readBegin", "()Z"⟩, 28) := ⟨lw_n7, lw_at 7 19 rfl, lw_at 7 204 rfl, lw_at 7 205 rfl⟩
set_option maxRecDepth 8000 in
theorem lw_p56 : lw_okq (⟨"StepperTableModel", "of", "(I)I"⟩, 28) := ⟨lw_n7, lw_at 7 19 rfl, lw_at 7 211 rfl, lw_at 7 212 rfl⟩
set_option maxRecDepth 8000 in
theorem lw_p57 : lw_okq (⟨"StepperTableModel", "fails", "(ZI)Z"⟩, 28) := ⟨lw_n7, lw_at 7 19 rfl, lw_at 7 228 rfl, lw_at 7 229 rfl⟩
set_option maxRecDepth 8000 in
theorem lw_p58 : lw_okq (⟨"StepperTableModel", "homedMany", "()I"⟩, 28) := ⟨lw_n7, lw_at 7 19 rfl, lw_at 7 232 rfl, lw_at 7 233 rfl⟩
set_option maxRecDepth 8000 in
theorem lw_p59 : lw_okq (⟨"StepperTableModel", "noAxis", "(I)Z"⟩, 28) := ⟨lw_n7, lw_at 7 19 rfl, lw_at 8 0 rfl, lw_at 8 1 rfl⟩
set_option maxRecDepth 8000 in
theorem lw_p60 : lw_okq (⟨"StepperTableModel", "notHomed", "(II)Z"⟩, 28) := ⟨lw_n7, lw_at 7 19 rfl, lw_at 8 9 rfl, lw_at 8 10 rfl⟩
set_option maxRecDepth 8000 in
theorem lw_p61 : lw_okq (⟨"StepperTableModel", "errorOf", "(I)I"⟩, 28) := ⟨lw_n7, lw_at 7 19 rfl, lw_at 8 17 rfl, lw_at 8 18 rfl⟩
set_option maxRecDepth 8000 in
theorem lw_p62 : lw_okq (⟨"StepperTableModel", "reads", "(I)Z"⟩, 28) := ⟨lw_n7, lw_at 7 19 rfl, lw_at 8 25 rfl, lw_at 8 26 rfl⟩
set_option maxRecDepth 8000 in
theorem lw_p63 : lw_okq (⟨"StepperTableModel", "isBusy", "()Z"⟩, 28) := ⟨lw_n7, lw_at 7 19 rfl, lw_at 8 37 rfl, lw_at 8 38 rfl⟩
def lw_privs_4 : List (MethodName × Nat) := [(⟨"StepperTableModel", "readStatement", "()Z"⟩, 28), (⟨"StepperTableModel", "isWord", "(Ljava/lang/String;)Z"⟩, 28), (⟨"StepperTableModel", "tokenLength", "()I"⟩, 28), (⟨"StepperTableModel", "readAxis", "(I)Z"⟩, 28), (⟨"StepperTableModel", "startsOnce", "(IZ)Z"⟩, 28), (⟨"StepperTableModel", "failsAt", "(I)Z"⟩, 28), (⟨"StepperTableModel", "takesInto", "(IJJ)Z"⟩, 28), (⟨"StepperTableModel", "readBegin", "()Z"⟩, 28), (⟨"StepperTableModel", "of", "(I)I"⟩, 28), (⟨"StepperTableModel", "fails", "(ZI)Z"⟩, 28), (⟨"StepperTableModel", "homedMany", "()I"⟩, 28), (⟨"StepperTableModel", "noAxis", "(I)Z"⟩, 28), (⟨"StepperTableModel", "notHomed", "(II)Z"⟩, 28), (⟨"StepperTableModel", "errorOf", "(I)I"⟩, 28), (⟨"StepperTableModel", "reads", "(I)Z"⟩, 28), (⟨"StepperTableModel", "isBusy", "()Z"⟩, 28)]
theorem lw_r4 : ∀ q ∈ lw_privs_4, lw_okq q := List.forall_mem_cons.mpr ⟨lw_p48, List.forall_mem_cons.mpr ⟨lw_p49, List.forall_mem_cons.mpr ⟨lw_p50, List.forall_mem_cons.mpr ⟨lw_p51, List.forall_mem_cons.mpr ⟨lw_p52, List.forall_mem_cons.mpr ⟨lw_p53, List.forall_mem_cons.mpr ⟨lw_p54, List.forall_mem_cons.mpr ⟨lw_p55, List.forall_mem_cons.mpr ⟨lw_p56, List.forall_mem_cons.mpr ⟨lw_p57, List.forall_mem_cons.mpr ⟨lw_p58, List.forall_mem_cons.mpr ⟨lw_p59, List.forall_mem_cons.mpr ⟨lw_p60, List.forall_mem_cons.mpr ⟨lw_p61, List.forall_mem_cons.mpr ⟨lw_p62, List.forall_mem_cons.mpr ⟨lw_p63, fun _ h => absurd h List.not_mem_nil⟩⟩⟩⟩⟩⟩⟩⟩⟩⟩⟩⟩⟩⟩⟩⟩
set_option maxRecDepth 8000 in
theorem lw_p64 : lw_okq (⟨"StepperTableModel", "remembers", "()V"⟩, 28) := ⟨lw_n7, lw_at 7 19 rfl, lw_at 8 41 rfl, lw_at 8 42 rfl⟩
set_option maxRecDepth 8000 in
theorem lw_p65 : lw_okq (⟨"StepperTableModel", "homes", "(I)I"⟩, 28) := ⟨lw_n7, lw_at 7 19 rfl, lw_at 8 45 rfl, lw_at 8 46 rfl⟩
set_option maxRecDepth 8000 in
theorem lw_p66 : lw_okq (⟨"StepperTableModel", "slowTime", "()J"⟩, 28) := ⟨lw_n7, lw_at 7 19 rfl, lw_at 8 49 rfl, lw_at 8 50 rfl⟩
set_option maxRecDepth 8000 in
theorem lw_p67 : lw_okq (⟨"StepperTableModel", "seeks", "(IZIJ)I"⟩, 28) := ⟨lw_n7, lw_at 7 19 rfl, lw_at 8 54 rfl, lw_at 8 55 rfl⟩
set_option maxRecDepth 8000 in
theorem lw_p68 : lw_okq (⟨"StepperTableModel", "steps", "(II)Z"⟩, 28) := ⟨lw_n7, lw_at 7 19 rfl, lw_at 8 58 rfl, lw_at 8 59 rfl⟩
set_option maxRecDepth 8000 in
theorem lw_p69 : lw_okq (⟨"StepperTableModel", "isPoint", "(III)Z"⟩, 28) := ⟨lw_n7, lw_at 7 19 rfl, lw_at 8 82 rfl, lw_at 8 83 rfl⟩
set_option maxRecDepth 8000 in
theorem lw_p70 : lw_okq (⟨"StepperTableModel", "queued", "(IIII)I"⟩, 28) := ⟨lw_n7, lw_at 7 19 rfl, lw_at 8 86 rfl, lw_at 8 87 rfl⟩
set_option maxRecDepth 8000 in
theorem lw_p71 : lw_okq (⟨"StepperTableModel", "mayQueue", "()Z"⟩, 28) := ⟨lw_n7, lw_at 7 19 rfl, lw_at 8 90 rfl, lw_at 8 91 rfl⟩
set_option maxRecDepth 8000 in
theorem lw_p72 : lw_okq (⟨"StepperTableModel", "begins", "()V"⟩, 28) := ⟨lw_n7, lw_at 7 19 rfl, lw_at 8 95 rfl, lw_at 8 96 rfl⟩
set_option maxRecDepth 8000 in
theorem lw_p73 : lw_okq (⟨"StepperTableModel", "puts", "(IIII)V"⟩, 28) := ⟨lw_n7, lw_at 7 19 rfl, lw_at 8 99 rfl, lw_at 8 100 rfl⟩
set_option maxRecDepth 8000 in
theorem lw_p74 : lw_okq (⟨"StepperTableModel", "leadsNowhere", "()Z"⟩, 28) := ⟨lw_n7, lw_at 7 19 rfl, lw_at 8 103 rfl, lw_at 8 104 rfl⟩
set_option maxRecDepth 8000 in
theorem lw_p75 : lw_okq (⟨"StepperTableModel", "beginOf", "(II)I"⟩, 28) := ⟨lw_n7, lw_at 7 19 rfl, lw_at 8 107 rfl, lw_at 8 108 rfl⟩
set_option maxRecDepth 8000 in
theorem lw_p76 : lw_okq (⟨"StepperTableModel", "ends", "()V"⟩, 28) := ⟨lw_n7, lw_at 7 19 rfl, lw_at 8 111 rfl, lw_at 8 112 rfl⟩
set_option maxRecDepth 8000 in
theorem lw_p77 : lw_okq (⟨"StepperTableModel", "noMove", "(I)Z"⟩, 28) := ⟨lw_n7, lw_at 7 19 rfl, lw_at 8 127 rfl, lw_at 8 128 rfl⟩
set_option maxRecDepth 8000 in
theorem lw_p78 : lw_okq (⟨"StepperTableModel", "takesOut", "(I)V"⟩, 28) := ⟨lw_n7, lw_at 7 19 rfl, lw_at 8 131 rfl, lw_at 8 132 rfl⟩
set_option maxRecDepth 8000 in
theorem lw_p79 : lw_okq (⟨"StepperTableModel", "swaps", "(II)V"⟩, 28) := ⟨lw_n7, lw_at 7 19 rfl, lw_at 8 139 rfl, lw_at 8 140 rfl⟩
def lw_privs_5 : List (MethodName × Nat) := [(⟨"StepperTableModel", "remembers", "()V"⟩, 28), (⟨"StepperTableModel", "homes", "(I)I"⟩, 28), (⟨"StepperTableModel", "slowTime", "()J"⟩, 28), (⟨"StepperTableModel", "seeks", "(IZIJ)I"⟩, 28), (⟨"StepperTableModel", "steps", "(II)Z"⟩, 28), (⟨"StepperTableModel", "isPoint", "(III)Z"⟩, 28), (⟨"StepperTableModel", "queued", "(IIII)I"⟩, 28), (⟨"StepperTableModel", "mayQueue", "()Z"⟩, 28), (⟨"StepperTableModel", "begins", "()V"⟩, 28), (⟨"StepperTableModel", "puts", "(IIII)V"⟩, 28), (⟨"StepperTableModel", "leadsNowhere", "()Z"⟩, 28), (⟨"StepperTableModel", "beginOf", "(II)I"⟩, 28), (⟨"StepperTableModel", "ends", "()V"⟩, 28), (⟨"StepperTableModel", "noMove", "(I)Z"⟩, 28), (⟨"StepperTableModel", "takesOut", "(I)V"⟩, 28), (⟨"StepperTableModel", "swaps", "(II)V"⟩, 28)]
theorem lw_r5 : ∀ q ∈ lw_privs_5, lw_okq q := List.forall_mem_cons.mpr ⟨lw_p64, List.forall_mem_cons.mpr ⟨lw_p65, List.forall_mem_cons.mpr ⟨lw_p66, List.forall_mem_cons.mpr ⟨lw_p67, List.forall_mem_cons.mpr ⟨lw_p68, List.forall_mem_cons.mpr ⟨lw_p69, List.forall_mem_cons.mpr ⟨lw_p70, List.forall_mem_cons.mpr ⟨lw_p71, List.forall_mem_cons.mpr ⟨lw_p72, List.forall_mem_cons.mpr ⟨lw_p73, List.forall_mem_cons.mpr ⟨lw_p74, List.forall_mem_cons.mpr ⟨lw_p75, List.forall_mem_cons.mpr ⟨lw_p76, List.forall_mem_cons.mpr ⟨lw_p77, List.forall_mem_cons.mpr ⟨lw_p78, List.forall_mem_cons.mpr ⟨lw_p79, fun _ h => absurd h List.not_mem_nil⟩⟩⟩⟩⟩⟩⟩⟩⟩⟩⟩⟩⟩⟩⟩⟩
set_option maxRecDepth 8000 in
theorem lw_p80 : lw_okq (⟨"StepperTableModel", "straightMany", "()I"⟩, 28) := ⟨lw_n7, lw_at 7 19 rfl, lw_at 8 143 rfl, lw_at 8 144 rfl⟩
set_option maxRecDepth 8000 in
theorem lw_p81 : lw_okq (⟨"StepperTableModel", "laysPlan", "()V"⟩, 28) := ⟨lw_n7, lw_at 7 19 rfl, lw_at 8 147 rfl, lw_at 8 148 rfl⟩
set_option maxRecDepth 8000 in
theorem lw_p82 : lw_okq (⟨"StepperTableModel", "laysMove", "(I)V"⟩, 28) := ⟨lw_n7, lw_at 7 19 rfl, lw_at 8 151 rfl, lw_at 8 152 rfl⟩
set_option maxRecDepth 8000 in
theorem lw_p83 : lw_okq (⟨"StepperTableModel", "isStraight", "(I)Z"⟩, 28) := ⟨lw_n7, lw_at 7 19 rfl, lw_at 8 157 rfl, lw_at 8 158 rfl⟩
set_option maxRecDepth 8000 in
theorem lw_p84 : lw_okq (⟨"StepperTableModel", "makes", "(I)I"⟩, 28) := ⟨lw_n7, lw_at 7 19 rfl, lw_at 8 165 rfl, lw_at 8 166 rfl⟩
set_option maxRecDepth 8000 in
theorem lw_p85 : lw_okq (⟨"StepperTableModel", "makesMove", "(I)Z"⟩, 28) := ⟨lw_n7, lw_at 7 19 rfl, lw_at 8 169 rfl, lw_at 8 170 rfl⟩
set_option maxRecDepth 8000 in
theorem lw_p86 : lw_okq (⟨"StepperTableModel", "makesUp", "(II)Z"⟩, 28) := ⟨lw_n7, lw_at 7 19 rfl, lw_at 8 173 rfl, lw_at 8 174 rfl⟩
set_option maxRecDepth 8000 in
theorem lw_p87 : lw_okq (⟨"StepperTableModel", "makesStep", "(II)Z"⟩, 28) := ⟨lw_n7, lw_at 7 19 rfl, lw_at 8 177 rfl, lw_at 8 178 rfl⟩
set_option maxRecDepth 8000 in
theorem lw_p88 : lw_okq (⟨"StepperTableModel", "lasts", "(II)J"⟩, 28) := ⟨lw_n7, lw_at 7 19 rfl, lw_at 8 181 rfl, lw_at 8 182 rfl⟩
set_option maxRecDepth 8000 in
theorem lw_p89 : lw_okq (⟨"StepperTableModel", "speedAt", "(II)I"⟩, 28) := ⟨lw_n7, lw_at 7 19 rfl, lw_at 8 185 rfl, lw_at 8 186 rfl⟩
set_option maxRecDepth 8000 in
theorem lw_p90 : lw_okq (⟨"StepperTableModel", "made", "(III)I"⟩, 28) := ⟨lw_n7, lw_at 7 19 rfl, lw_at 8 189 rfl, lw_at 8 190 rfl⟩
set_option maxRecDepth 8000 in
theorem lw_p91 : lw_okq (⟨"StepperTableModel", "stops", "()V"⟩, 28) := ⟨lw_n7, lw_at 7 19 rfl, lw_at 8 194 rfl, lw_at 8 195 rfl⟩
set_option maxRecDepth 8000 in
theorem lw_p92 : lw_okq (⟨"StepperTableModel", "sets", "(IZ)Z"⟩, 28) := ⟨lw_n7, lw_at 7 19 rfl, lw_at 8 210 rfl, lw_at 8 211 rfl⟩
set_option maxRecDepth 8000 in
theorem lw_p93 : lw_okq (⟨"StepperTableModel", "noPart", "(II)Z"⟩, 28) := ⟨lw_n7, lw_at 7 19 rfl, lw_at 8 230 rfl, lw_at 8 231 rfl⟩
set_option maxRecDepth 8000 in
theorem lw_p94 : lw_okq (⟨"StepperTableModel", "fastest", "(I)I"⟩, 28) := ⟨lw_n7, lw_at 7 19 rfl, lw_at 8 239 rfl, lw_at 9 0 rfl⟩
set_option maxRecDepth 8000 in
theorem lw_p95 : lw_okq (⟨"StepperTableModel", "fastSteps", "(I)I"⟩, 28) := ⟨lw_n7, lw_at 7 19 rfl, lw_at 9 3 rfl, lw_at 9 4 rfl⟩
def lw_privs_6 : List (MethodName × Nat) := [(⟨"StepperTableModel", "straightMany", "()I"⟩, 28), (⟨"StepperTableModel", "laysPlan", "()V"⟩, 28), (⟨"StepperTableModel", "laysMove", "(I)V"⟩, 28), (⟨"StepperTableModel", "isStraight", "(I)Z"⟩, 28), (⟨"StepperTableModel", "makes", "(I)I"⟩, 28), (⟨"StepperTableModel", "makesMove", "(I)Z"⟩, 28), (⟨"StepperTableModel", "makesUp", "(II)Z"⟩, 28), (⟨"StepperTableModel", "makesStep", "(II)Z"⟩, 28), (⟨"StepperTableModel", "lasts", "(II)J"⟩, 28), (⟨"StepperTableModel", "speedAt", "(II)I"⟩, 28), (⟨"StepperTableModel", "made", "(III)I"⟩, 28), (⟨"StepperTableModel", "stops", "()V"⟩, 28), (⟨"StepperTableModel", "sets", "(IZ)Z"⟩, 28), (⟨"StepperTableModel", "noPart", "(II)Z"⟩, 28), (⟨"StepperTableModel", "fastest", "(I)I"⟩, 28), (⟨"StepperTableModel", "fastSteps", "(I)I"⟩, 28)]
theorem lw_r6 : ∀ q ∈ lw_privs_6, lw_okq q := List.forall_mem_cons.mpr ⟨lw_p80, List.forall_mem_cons.mpr ⟨lw_p81, List.forall_mem_cons.mpr ⟨lw_p82, List.forall_mem_cons.mpr ⟨lw_p83, List.forall_mem_cons.mpr ⟨lw_p84, List.forall_mem_cons.mpr ⟨lw_p85, List.forall_mem_cons.mpr ⟨lw_p86, List.forall_mem_cons.mpr ⟨lw_p87, List.forall_mem_cons.mpr ⟨lw_p88, List.forall_mem_cons.mpr ⟨lw_p89, List.forall_mem_cons.mpr ⟨lw_p90, List.forall_mem_cons.mpr ⟨lw_p91, List.forall_mem_cons.mpr ⟨lw_p92, List.forall_mem_cons.mpr ⟨lw_p93, List.forall_mem_cons.mpr ⟨lw_p94, List.forall_mem_cons.mpr ⟨lw_p95, fun _ h => absurd h List.not_mem_nil⟩⟩⟩⟩⟩⟩⟩⟩⟩⟩⟩⟩⟩⟩⟩⟩
set_option maxRecDepth 8000 in
theorem lw_p96 : lw_okq (⟨"StepperTableModel", "noSteps", "(III)Z"⟩, 28) := ⟨lw_n7, lw_at 7 19 rfl, lw_at 9 15 rfl, lw_at 9 16 rfl⟩
set_option maxRecDepth 8000 in
theorem lw_p97 : lw_okq (⟨"StepperTableModel", "nearestOf", "(JJJI)I"⟩, 28) := ⟨lw_n7, lw_at 7 19 rfl, lw_at 9 55 rfl, lw_at 9 56 rfl⟩
set_option maxRecDepth 8000 in
theorem lw_p98 : lw_okq (⟨"StepperTableModel", "lineOf", "(I)D"⟩, 28) := ⟨lw_n7, lw_at 7 19 rfl, lw_at 9 78 rfl, lw_at 9 79 rfl⟩
set_option maxRecDepth 8000 in
theorem lw_p99 : lw_okq (⟨"StepperTableModel", "timeOf", "(I)J"⟩, 28) := ⟨lw_n7, lw_at 7 19 rfl, lw_at 9 98 rfl, lw_at 9 99 rfl⟩
set_option maxRecDepth 8000 in
theorem lw_p100 : lw_okq (⟨"StepperTableModel", "thoughtTime", "(I)J"⟩, 28) := ⟨lw_n7, lw_at 7 19 rfl, lw_at 9 102 rfl, lw_at 9 103 rfl⟩
set_option maxRecDepth 8000 in
theorem lw_p101 : lw_okq (⟨"StepperTableModel", "passesUp", "(I)V"⟩, 28) := ⟨lw_n7, lw_at 7 19 rfl, lw_at 9 115 rfl, lw_at 9 116 rfl⟩
set_option maxRecDepth 8000 in
theorem lw_p102 : lw_okq (⟨"StepperTableModel", "lostMany", "()I"⟩, 28) := ⟨lw_n7, lw_at 7 19 rfl, lw_at 9 131 rfl, lw_at 9 132 rfl⟩
set_option maxRecDepth 8000 in
theorem lw_p103 : lw_okq (⟨"StepperTableModel", "timeWithFirst", "(I)J"⟩, 28) := ⟨lw_n7, lw_at 7 19 rfl, lw_at 9 147 rfl, lw_at 9 148 rfl⟩
set_option maxRecDepth 8000 in
theorem lw_p104 : lw_okq (⟨"StepperTableModel", "leavesOut", "()V"⟩, 28) := ⟨lw_n7, lw_at 7 19 rfl, lw_at 9 151 rfl, lw_at 9 152 rfl⟩
set_option maxRecDepth 8000 in
theorem lw_p105 : lw_okq (⟨"StepperTableModel", "write", "(I)V"⟩, 28) := ⟨lw_n7, lw_at 7 19 rfl, lw_at 9 179 rfl, lw_at 9 180 rfl⟩
set_option maxRecDepth 8000 in
theorem lw_p106 : lw_okq (⟨"StepperTableModel", "writeNumber", "(I)V"⟩, 28) := ⟨lw_n7, lw_at 7 19 rfl, lw_at 9 183 rfl, lw_at 9 184 rfl⟩
def lw_privs_7 : List (MethodName × Nat) := [(⟨"StepperTableModel", "noSteps", "(III)Z"⟩, 28), (⟨"StepperTableModel", "nearestOf", "(JJJI)I"⟩, 28), (⟨"StepperTableModel", "lineOf", "(I)D"⟩, 28), (⟨"StepperTableModel", "timeOf", "(I)J"⟩, 28), (⟨"StepperTableModel", "thoughtTime", "(I)J"⟩, 28), (⟨"StepperTableModel", "passesUp", "(I)V"⟩, 28), (⟨"StepperTableModel", "lostMany", "()I"⟩, 28), (⟨"StepperTableModel", "timeWithFirst", "(I)J"⟩, 28), (⟨"StepperTableModel", "leavesOut", "()V"⟩, 28), (⟨"StepperTableModel", "write", "(I)V"⟩, 28), (⟨"StepperTableModel", "writeNumber", "(I)V"⟩, 28)]
theorem lw_r7 : ∀ q ∈ lw_privs_7, lw_okq q := List.forall_mem_cons.mpr ⟨lw_p96, List.forall_mem_cons.mpr ⟨lw_p97, List.forall_mem_cons.mpr ⟨lw_p98, List.forall_mem_cons.mpr ⟨lw_p99, List.forall_mem_cons.mpr ⟨lw_p100, List.forall_mem_cons.mpr ⟨lw_p101, List.forall_mem_cons.mpr ⟨lw_p102, List.forall_mem_cons.mpr ⟨lw_p103, List.forall_mem_cons.mpr ⟨lw_p104, List.forall_mem_cons.mpr ⟨lw_p105, List.forall_mem_cons.mpr ⟨lw_p106, fun _ h => absurd h List.not_mem_nil⟩⟩⟩⟩⟩⟩⟩⟩⟩⟩⟩
def lw_privs : List (MethodName × Nat) := lw_privs_1 ++ (lw_privs_2 ++ (lw_privs_3 ++ (lw_privs_4 ++ (lw_privs_5 ++ (lw_privs_6 ++ (lw_privs_7))))))
def lw_tbl : List Cond := k2_sels lw_privs ++ tables_1
theorem lw_privs_ok : ∀ q ∈ lw_privs, lw_okq q := by
  show ∀ q ∈ lw_privs_1 ++ (lw_privs_2 ++ (lw_privs_3 ++ (lw_privs_4 ++ (lw_privs_5 ++ (lw_privs_6 ++ (lw_privs_7)))))), lw_okq q
  exact List.forall_mem_append.mpr ⟨lw_r1, List.forall_mem_append.mpr ⟨lw_r2, List.forall_mem_append.mpr ⟨lw_r3, List.forall_mem_append.mpr ⟨lw_r4, List.forall_mem_append.mpr ⟨lw_r5, List.forall_mem_append.mpr ⟨lw_r6, lw_r7⟩⟩⟩⟩⟩⟩
/-- the streams that the claim lets the run draw from -/
abbrev lw_cs : List Choice := [Jvm.Choice.named "NaN.bits"]
theorem lw_bits : nanBits ∈ lw_cs := by first | decide | exact List.mem_cons_self | simp [lw_cs, nanBits]
