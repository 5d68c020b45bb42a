section
-- ===== PART A: goes FIRST, ahead of the names: the tables' words, and 'selects' of the private methods out of them =====
/-- a private method of a class that the tables say can be made, by its rows of tables_1 -/
def lw_okq (q : MethodName × Nat) : Prop := (q.1.cls ≠ "java/lang/invoke/MethodHandle" ∧ q.1.cls ≠ "java/lang/invoke/VarHandle") ∧ Cond.instantiable q.1.cls q.2 ∈ tables_1 ∧ Cond.privateMethod q.1 ∈ tables_1 ∧ Cond.instanceMethod q.1 ∈ tables_1
theorem lw_p0 : lw_okq (⟨"StepperTable$Setup", "forget", "()V"⟩, 7) := ⟨⟨by decide +kernel, by decide +kernel⟩, List.mem_of_getElem? (i := 50) (by decide +kernel), List.mem_of_getElem? (i := 375) (by decide +kernel), List.mem_of_getElem? (i := 376) (by decide +kernel)⟩
theorem lw_p1 : lw_okq (⟨"StepperTable$Setup", "keep", "(III)V"⟩, 7) := ⟨⟨by decide +kernel, by decide +kernel⟩, List.mem_of_getElem? (i := 50) (by decide +kernel), List.mem_of_getElem? (i := 382) (by decide +kernel), List.mem_of_getElem? (i := 383) (by decide +kernel)⟩
theorem lw_p2 : lw_okq (⟨"StepperTable$Setup", "findToken", "(LStepperTable$Bytes;)Z"⟩, 7) := ⟨⟨by decide +kernel, by decide +kernel⟩, List.mem_of_getElem? (i := 50) (by decide +kernel), List.mem_of_getElem? (i := 386) (by decide +kernel), List.mem_of_getElem? (i := 387) (by decide +kernel)⟩
theorem lw_p3 : lw_okq (⟨"StepperTable$Setup", "readStatement", "(LStepperTable$Bytes;)V"⟩, 7) := ⟨⟨by decide +kernel, by decide +kernel⟩, List.mem_of_getElem? (i := 50) (by decide +kernel), List.mem_of_getElem? (i := 397) (by decide +kernel), List.mem_of_getElem? (i := 398) (by decide +kernel)⟩
theorem lw_p4 : lw_okq (⟨"StepperTable$Setup", "readWord", "(LStepperTable$Bytes;)I"⟩, 7) := ⟨⟨by decide +kernel, by decide +kernel⟩, List.mem_of_getElem? (i := 50) (by decide +kernel), List.mem_of_getElem? (i := 401) (by decide +kernel), List.mem_of_getElem? (i := 402) (by decide +kernel)⟩
theorem lw_p5 : lw_okq (⟨"StepperTable$Setup", "fail", "(II)V"⟩, 7) := ⟨⟨by decide +kernel, by decide +kernel⟩, List.mem_of_getElem? (i := 50) (by decide +kernel), List.mem_of_getElem? (i := 469) (by decide +kernel), List.mem_of_getElem? (i := 470) (by decide +kernel)⟩
theorem lw_p6 : lw_okq (⟨"StepperTable$Setup", "readNumber", "(LStepperTable$Bytes;II)V"⟩, 7) := ⟨⟨by decide +kernel, by decide +kernel⟩, List.mem_of_getElem? (i := 50) (by decide +kernel), List.mem_of_getElem? (i := 480) (by decide +kernel), List.mem_of_getElem? (i := 481) (by decide +kernel)⟩
theorem lw_p7 : lw_okq (⟨"StepperTable$Setup", "least", "(II)I"⟩, 7) := ⟨⟨by decide +kernel, by decide +kernel⟩, List.mem_of_getElem? (i := 50) (by decide +kernel), List.mem_of_getElem? (i := 487) (by decide +kernel), List.mem_of_getElem? (i := 488) (by decide +kernel)⟩
theorem lw_p8 : lw_okq (⟨"StepperTable$Setup", "greatest", "(II)I"⟩, 7) := ⟨⟨by decide +kernel, by decide +kernel⟩, List.mem_of_getElem? (i := 50) (by decide +kernel), List.mem_of_getElem? (i := 496) (by decide +kernel), List.mem_of_getElem? (i := 497) (by decide +kernel)⟩
theorem lw_p9 : lw_okq (⟨"StepperTable$Setup", "readSemicolon", "(LStepperTable$Bytes;)V"⟩, 7) := ⟨⟨by decide +kernel, by decide +kernel⟩, List.mem_of_getElem? (i := 50) (by decide +kernel), List.mem_of_getElem? (i := 506) (by decide +kernel), List.mem_of_getElem? (i := 507) (by decide +kernel)⟩
theorem lw_p10 : lw_okq (⟨"StepperTable$History", "slot", "(I)LStepperTable$Table;"⟩, 3) := ⟨⟨by decide +kernel, by decide +kernel⟩, List.mem_of_getElem? (i := 257) (by decide +kernel), List.mem_of_getElem? (i := 553) (by decide +kernel), List.mem_of_getElem? (i := 554) (by decide +kernel)⟩
theorem lw_p11 : lw_okq (⟨"StepperTable", "planned", "()LStepperTable$Plan;"⟩, 10) := ⟨⟨by decide +kernel, by decide +kernel⟩, List.mem_of_getElem? (i := 26) (by decide +kernel), List.mem_of_getElem? (i := 594) (by decide +kernel), List.mem_of_getElem? (i := 595) (by decide +kernel)⟩
theorem lw_p12 : lw_okq (⟨"StepperTable$Plan", "measure", "(LStepperTable$Axis;LStepperTable$Targets;I)V"⟩, 11) := ⟨⟨by decide +kernel, by decide +kernel⟩, List.mem_of_getElem? (i := 277) (by decide +kernel), List.mem_of_getElem? (i := 606) (by decide +kernel), List.mem_of_getElem? (i := 607) (by decide +kernel)⟩
theorem lw_p13 : lw_okq (⟨"StepperTable$Plan", "rate", "(LStepperTable$Table;I)V"⟩, 11) := ⟨⟨by decide +kernel, by decide +kernel⟩, List.mem_of_getElem? (i := 277) (by decide +kernel), List.mem_of_getElem? (i := 618) (by decide +kernel), List.mem_of_getElem? (i := 619) (by decide +kernel)⟩
theorem lw_p14 : lw_okq (⟨"StepperTable$Plan", "link", "(I)V"⟩, 11) := ⟨⟨by decide +kernel, by decide +kernel⟩, List.mem_of_getElem? (i := 277) (by decide +kernel), List.mem_of_getElem? (i := 642) (by decide +kernel), List.mem_of_getElem? (i := 643) (by decide +kernel)⟩
theorem lw_p15 : lw_okq (⟨"StepperTable$Plan", "goesStraight", "(I)Z"⟩, 11) := ⟨⟨by decide +kernel, by decide +kernel⟩, List.mem_of_getElem? (i := 277) (by decide +kernel), List.mem_of_getElem? (i := 646) (by decide +kernel), List.mem_of_getElem? (i := 647) (by decide +kernel)⟩
def lw_privs_1 : List (MethodName × Nat) := [(⟨"StepperTable$Setup", "forget", "()V"⟩, 7), (⟨"StepperTable$Setup", "keep", "(III)V"⟩, 7), (⟨"StepperTable$Setup", "findToken", "(LStepperTable$Bytes;)Z"⟩, 7), (⟨"StepperTable$Setup", "readStatement", "(LStepperTable$Bytes;)V"⟩, 7), (⟨"StepperTable$Setup", "readWord", "(LStepperTable$Bytes;)I"⟩, 7), (⟨"StepperTable$Setup", "fail", "(II)V"⟩, 7), (⟨"StepperTable$Setup", "readNumber", "(LStepperTable$Bytes;II)V"⟩, 7), (⟨"StepperTable$Setup", "least", "(II)I"⟩, 7), (⟨"StepperTable$Setup", "greatest", "(II)I"⟩, 7), (⟨"StepperTable$Setup", "readSemicolon", "(LStepperTable$Bytes;)V"⟩, 7), (⟨"StepperTable$History", "slot", "(I)LStepperTable$Table;"⟩, 3), (⟨"StepperTable", "planned", "()LStepperTable$Plan;"⟩, 10), (⟨"StepperTable$Plan", "measure", "(LStepperTable$Axis;LStepperTable$Targets;I)V"⟩, 11), (⟨"StepperTable$Plan", "rate", "(LStepperTable$Table;I)V"⟩, 11), (⟨"StepperTable$Plan", "link", "(I)V"⟩, 11), (⟨"StepperTable$Plan", "goesStraight", "(I)Z"⟩, 11)]
theorem lw_r1 : ∀ q ∈ lw_privs_1, lw_okq q := List.forall_mem_cons.mpr ⟨lw_p0, List.forall_mem_cons.mpr ⟨lw_p1, List.forall_mem_cons.mpr ⟨lw_p2, List.forall_mem_cons.mpr ⟨lw_p3, List.forall_mem_cons.mpr ⟨lw_p4, List.forall_mem_cons.mpr ⟨lw_p5, List.forall_mem_cons.mpr ⟨lw_p6, List.forall_mem_cons.mpr ⟨lw_p7, List.forall_mem_cons.mpr ⟨lw_p8, List.forall_mem_cons.mpr ⟨lw_p9, List.forall_mem_cons.mpr ⟨lw_p10, List.forall_mem_cons.mpr ⟨lw_p11, List.forall_mem_cons.mpr ⟨lw_p12, List.forall_mem_cons.mpr ⟨lw_p13, List.forall_mem_cons.mpr ⟨lw_p14, List.forall_mem_cons.mpr ⟨lw_p15, fun _ h => absurd h List.not_mem_nil⟩⟩⟩⟩⟩⟩⟩⟩⟩⟩⟩⟩⟩⟩⟩⟩
theorem lw_p16 : lw_okq (⟨"StepperTable$Plan", "smooth", "()V"⟩, 11) := ⟨⟨by decide +kernel, by decide +kernel⟩, List.mem_of_getElem? (i := 277) (by decide +kernel), List.mem_of_getElem? (i := 654) (by decide +kernel), List.mem_of_getElem? (i := 655) (by decide +kernel)⟩
theorem lw_p17 : lw_okq (⟨"StepperTable$Plan", "reach", "(I)I"⟩, 11) := ⟨⟨by decide +kernel, by decide +kernel⟩, List.mem_of_getElem? (i := 277) (by decide +kernel), List.mem_of_getElem? (i := 662) (by decide +kernel), List.mem_of_getElem? (i := 663) (by decide +kernel)⟩
theorem lw_p18 : lw_okq (⟨"StepperTable$Table", "makeMove", "(LStepperTable$Plan;I)Z"⟩, 11) := ⟨⟨by decide +kernel, by decide +kernel⟩, List.mem_of_getElem? (i := 83) (by decide +kernel), List.mem_of_getElem? (i := 674) (by decide +kernel), List.mem_of_getElem? (i := 675) (by decide +kernel)⟩
theorem lw_p19 : lw_okq (⟨"StepperTable$Table", "countReversals", "(LStepperTable$Plan;I)V"⟩, 11) := ⟨⟨by decide +kernel, by decide +kernel⟩, List.mem_of_getElem? (i := 83) (by decide +kernel), List.mem_of_getElem? (i := 678) (by decide +kernel), List.mem_of_getElem? (i := 679) (by decide +kernel)⟩
theorem lw_p20 : lw_okq (⟨"StepperTable$Table", "compensate", "(LStepperTable$Plan;I)Z"⟩, 11) := ⟨⟨by decide +kernel, by decide +kernel⟩, List.mem_of_getElem? (i := 83) (by decide +kernel), List.mem_of_getElem? (i := 688) (by decide +kernel), List.mem_of_getElem? (i := 689) (by decide +kernel)⟩
theorem lw_p21 : lw_okq (⟨"StepperTable$Axis", "pushForward", "()Z"⟩, 15) := ⟨⟨by decide +kernel, by decide +kernel⟩, List.mem_of_getElem? (i := 89) (by decide +kernel), List.mem_of_getElem? (i := 706) (by decide +kernel), List.mem_of_getElem? (i := 707) (by decide +kernel)⟩
theorem lw_p22 : lw_okq (⟨"StepperTable$Axis", "pushBackward", "()Z"⟩, 15) := ⟨⟨by decide +kernel, by decide +kernel⟩, List.mem_of_getElem? (i := 89) (by decide +kernel), List.mem_of_getElem? (i := 710) (by decide +kernel), List.mem_of_getElem? (i := 711) (by decide +kernel)⟩
theorem lw_p23 : lw_okq (⟨"StepperTable$Table", "stepAxes", "(LStepperTable$Plan;II)Z"⟩, 11) := ⟨⟨by decide +kernel, by decide +kernel⟩, List.mem_of_getElem? (i := 83) (by decide +kernel), List.mem_of_getElem? (i := 724) (by decide +kernel), List.mem_of_getElem? (i := 725) (by decide +kernel)⟩
theorem lw_p24 : lw_okq (⟨"StepperTable$Targets", "copyTarget", "(II)V"⟩, 2) := ⟨⟨by decide +kernel, by decide +kernel⟩, List.mem_of_getElem? (i := 195) (by decide +kernel), List.mem_of_getElem? (i := 736) (by decide +kernel), List.mem_of_getElem? (i := 737) (by decide +kernel)⟩
theorem lw_p25 : lw_okq (⟨"StepperTable", "forecast", "()LStepperTable$Table;"⟩, 10) := ⟨⟨by decide +kernel, by decide +kernel⟩, List.mem_of_getElem? (i := 26) (by decide +kernel), List.mem_of_getElem? (i := 810) (by decide +kernel), List.mem_of_getElem? (i := 811) (by decide +kernel)⟩
theorem lw_p26 : lw_okq (⟨"StepperTable$Table", "addUnlessThere", "(LStepperTable$Targets;I)V"⟩, 11) := ⟨⟨by decide +kernel, by decide +kernel⟩, List.mem_of_getElem? (i := 83) (by decide +kernel), List.mem_of_getElem? (i := 823) (by decide +kernel), List.mem_of_getElem? (i := 824) (by decide +kernel)⟩
theorem lw_p27 : lw_okq (⟨"java/lang/Throwable", "fillInStackTrace", "(I)Ljava/lang/Throwable;"⟩, 6) := ⟨⟨by decide +kernel, by decide +kernel⟩, List.mem_of_getElem? (i := 922) (by decide +kernel), List.mem_of_getElem? (i := 920) (by decide +kernel), List.mem_of_getElem? (i := 921) (by decide +kernel)⟩
theorem lw_p28 : lw_okq (⟨"StepperTable", "checkAxis", "(I)V"⟩, 10) := ⟨⟨by decide +kernel, by decide +kernel⟩, List.mem_of_getElem? (i := 26) (by decide +kernel), List.mem_of_getElem? (i := 959) (by decide +kernel), List.mem_of_getElem? (i := 960) (by decide +kernel)⟩
theorem lw_p29 : lw_okq (⟨"StepperTable", "checkHomed", "(I)V"⟩, 10) := ⟨⟨by decide +kernel, by decide +kernel⟩, List.mem_of_getElem? (i := 26) (by decide +kernel), List.mem_of_getElem? (i := 996) (by decide +kernel), List.mem_of_getElem? (i := 997) (by decide +kernel)⟩
theorem lw_p30 : lw_okq (⟨"StepperTable", "checkNoAlarm", "()V"⟩, 10) := ⟨⟨by decide +kernel, by decide +kernel⟩, List.mem_of_getElem? (i := 26) (by decide +kernel), List.mem_of_getElem? (i := 1045) (by decide +kernel), List.mem_of_getElem? (i := 1046) (by decide +kernel)⟩
theorem lw_p31 : lw_okq (⟨"StepperTable", "checkQueueEmpty", "()V"⟩, 10) := ⟨⟨by decide +kernel, by decide +kernel⟩, List.mem_of_getElem? (i := 26) (by decide +kernel), List.mem_of_getElem? (i := 1050) (by decide +kernel), List.mem_of_getElem? (i := 1051) (by decide +kernel)⟩
def lw_privs_2 : List (MethodName × Nat) := [(⟨"StepperTable$Plan", "smooth", "()V"⟩, 11), (⟨"StepperTable$Plan", "reach", "(I)I"⟩, 11), (⟨"StepperTable$Table", "makeMove", "(LStepperTable$Plan;I)Z"⟩, 11), (⟨"StepperTable$Table", "countReversals", "(LStepperTable$Plan;I)V"⟩, 11), (⟨"StepperTable$Table", "compensate", "(LStepperTable$Plan;I)Z"⟩, 11), (⟨"StepperTable$Axis", "pushForward", "()Z"⟩, 15), (⟨"StepperTable$Axis", "pushBackward", "()Z"⟩, 15), (⟨"StepperTable$Table", "stepAxes", "(LStepperTable$Plan;II)Z"⟩, 11), (⟨"StepperTable$Targets", "copyTarget", "(II)V"⟩, 2), (⟨"StepperTable", "forecast", "()LStepperTable$Table;"⟩, 10), (⟨"StepperTable$Table", "addUnlessThere", "(LStepperTable$Targets;I)V"⟩, 11), (⟨"java/lang/Throwable", "fillInStackTrace", "(I)Ljava/lang/Throwable;"⟩, 6), (⟨"StepperTable", "checkAxis", "(I)V"⟩, 10), (⟨"StepperTable", "checkHomed", "(I)V"⟩, 10), (⟨"StepperTable", "checkNoAlarm", "()V"⟩, 10), (⟨"StepperTable", "checkQueueEmpty", "()V"⟩, 10)]
theorem lw_r2 : ∀ q ∈ lw_privs_2, lw_okq q := List.forall_mem_cons.mpr ⟨lw_p16, List.forall_mem_cons.mpr ⟨lw_p17, List.forall_mem_cons.mpr ⟨lw_p18, List.forall_mem_cons.mpr ⟨lw_p19, List.forall_mem_cons.mpr ⟨lw_p20, List.forall_mem_cons.mpr ⟨lw_p21, List.forall_mem_cons.mpr ⟨lw_p22, List.forall_mem_cons.mpr ⟨lw_p23, List.forall_mem_cons.mpr ⟨lw_p24, List.forall_mem_cons.mpr ⟨lw_p25, List.forall_mem_cons.mpr ⟨lw_p26, List.forall_mem_cons.mpr ⟨lw_p27, List.forall_mem_cons.mpr ⟨lw_p28, List.forall_mem_cons.mpr ⟨lw_p29, List.forall_mem_cons.mpr ⟨lw_p30, List.forall_mem_cons.mpr ⟨lw_p31, fun _ h => absurd h List.not_mem_nil⟩⟩⟩⟩⟩⟩⟩⟩⟩⟩⟩⟩⟩⟩⟩⟩
theorem lw_p32 : lw_okq (⟨"StepperTable$Table", "failHoming", "(LStepperTable$Axis;I)I"⟩, 11) := ⟨⟨by decide +kernel, by decide +kernel⟩, List.mem_of_getElem? (i := 83) (by decide +kernel), List.mem_of_getElem? (i := 1066) (by decide +kernel), List.mem_of_getElem? (i := 1067) (by decide +kernel)⟩
theorem lw_p33 : lw_okq (⟨"StepperTable", "checkPoint", "(III)V"⟩, 10) := ⟨⟨by decide +kernel, by decide +kernel⟩, List.mem_of_getElem? (i := 26) (by decide +kernel), List.mem_of_getElem? (i := 1095) (by decide +kernel), List.mem_of_getElem? (i := 1096) (by decide +kernel)⟩
theorem lw_p34 : lw_okq (⟨"StepperTable", "checkRoom", "()V"⟩, 10) := ⟨⟨by decide +kernel, by decide +kernel⟩, List.mem_of_getElem? (i := 26) (by decide +kernel), List.mem_of_getElem? (i := 1104) (by decide +kernel), List.mem_of_getElem? (i := 1105) (by decide +kernel)⟩
theorem lw_p35 : lw_okq (⟨"StepperTable", "checkAllHomed", "()V"⟩, 10) := ⟨⟨by decide +kernel, by decide +kernel⟩, List.mem_of_getElem? (i := 26) (by decide +kernel), List.mem_of_getElem? (i := 1108) (by decide +kernel), List.mem_of_getElem? (i := 1109) (by decide +kernel)⟩
theorem lw_p36 : lw_okq (⟨"StepperTable", "takePath", "()I"⟩, 10) := ⟨⟨by decide +kernel, by decide +kernel⟩, List.mem_of_getElem? (i := 26) (by decide +kernel), List.mem_of_getElem? (i := 1116) (by decide +kernel), List.mem_of_getElem? (i := 1117) (by decide +kernel)⟩
theorem lw_p37 : lw_okq (⟨"StepperTable", "checkMove", "(I)V"⟩, 10) := ⟨⟨by decide +kernel, by decide +kernel⟩, List.mem_of_getElem? (i := 26) (by decide +kernel), List.mem_of_getElem? (i := 1185) (by decide +kernel), List.mem_of_getElem? (i := 1186) (by decide +kernel)⟩
theorem lw_p38 : lw_okq (⟨"StepperTable$Plan", "greatestSpeed", "(I)I"⟩, 11) := ⟨⟨by decide +kernel, by decide +kernel⟩, List.mem_of_getElem? (i := 277) (by decide +kernel), List.mem_of_getElem? (i := 1201) (by decide +kernel), List.mem_of_getElem? (i := 1202) (by decide +kernel)⟩
theorem lw_p39 : lw_okq (⟨"StepperTable$Plan", "greatestSteps", "(I)I"⟩, 11) := ⟨⟨by decide +kernel, by decide +kernel⟩, List.mem_of_getElem? (i := 277) (by decide +kernel), List.mem_of_getElem? (i := 1205) (by decide +kernel), List.mem_of_getElem? (i := 1206) (by decide +kernel)⟩
theorem lw_p40 : lw_okq (⟨"StepperTable", "checkSteps", "(II)V"⟩, 10) := ⟨⟨by decide +kernel, by decide +kernel⟩, List.mem_of_getElem? (i := 26) (by decide +kernel), List.mem_of_getElem? (i := 1226) (by decide +kernel), List.mem_of_getElem? (i := 1227) (by decide +kernel)⟩
theorem lw_p41 : lw_okq (⟨"StepperTable$Plan", "offLine", "(III)F"⟩, 11) := ⟨⟨by decide +kernel, by decide +kernel⟩, List.mem_of_getElem? (i := 277) (by decide +kernel), List.mem_of_getElem? (i := 1242) (by decide +kernel), List.mem_of_getElem? (i := 1243) (by decide +kernel)⟩
theorem lw_p42 : lw_okq (⟨"StepperTableModel", "clear", "()V"⟩, 28) := ⟨⟨by decide +kernel, by decide +kernel⟩, List.mem_of_getElem? (i := 1459) (by decide +kernel), List.mem_of_getElem? (i := 1465) (by decide +kernel), List.mem_of_getElem? (i := 1466) (by decide +kernel)⟩
theorem lw_p43 : lw_okq (⟨"StepperTableModel", "closes", "()V"⟩, 28) := ⟨⟨by decide +kernel, by decide +kernel⟩, List.mem_of_getElem? (i := 1459) (by decide +kernel), List.mem_of_getElem? (i := 1474) (by decide +kernel), List.mem_of_getElem? (i := 1475) (by decide +kernel)⟩
theorem lw_p44 : lw_okq (⟨"StepperTableModel", "appendWord", "(I)V"⟩, 28) := ⟨⟨by decide +kernel, by decide +kernel⟩, List.mem_of_getElem? (i := 1459) (by decide +kernel), List.mem_of_getElem? (i := 1572) (by decide +kernel), List.mem_of_getElem? (i := 1573) (by decide +kernel)⟩
theorem lw_p45 : lw_okq (⟨"StepperTableModel", "advanceToken", "()V"⟩, 28) := ⟨⟨by decide +kernel, by decide +kernel⟩, List.mem_of_getElem? (i := 1459) (by decide +kernel), List.mem_of_getElem? (i := 1590) (by decide +kernel), List.mem_of_getElem? (i := 1591) (by decide +kernel)⟩
theorem lw_p46 : lw_okq (⟨"StepperTableModel", "byteAt", "(I)I"⟩, 28) := ⟨⟨by decide +kernel, by decide +kernel⟩, List.mem_of_getElem? (i := 1459) (by decide +kernel), List.mem_of_getElem? (i := 1594) (by decide +kernel), List.mem_of_getElem? (i := 1595) (by decide +kernel)⟩
theorem lw_p47 : lw_okq (⟨"StepperTableModel", "readText", "()Z"⟩, 28) := ⟨⟨by decide +kernel, by decide +kernel⟩, List.mem_of_getElem? (i := 1459) (by decide +kernel), List.mem_of_getElem? (i := 1602) (by decide +kernel), List.mem_of_getElem? (i := 1603) (by decide +kernel)⟩
def lw_privs_3 : List (MethodName × Nat) := [(⟨"StepperTable$Table", "failHoming", "(LStepperTable$Axis;I)I"⟩, 11), (⟨"StepperTable", "checkPoint", "(III)V"⟩, 10), (⟨"StepperTable", "checkRoom", "()V"⟩, 10), (⟨"StepperTable", "checkAllHomed", "()V"⟩, 10), (⟨"StepperTable", "takePath", "()I"⟩, 10), (⟨"StepperTable", "checkMove", "(I)V"⟩, 10), (⟨"StepperTable$Plan", "greatestSpeed", "(I)I"⟩, 11), (⟨"StepperTable$Plan", "greatestSteps", "(I)I"⟩, 11), (⟨"StepperTable", "checkSteps", "(II)V"⟩, 10), (⟨"StepperTable$Plan", "offLine", "(III)F"⟩, 11), (⟨"StepperTableModel", "clear", "()V"⟩, 28), (⟨"StepperTableModel", "closes", "()V"⟩, 28), (⟨"StepperTableModel", "appendWord", "(I)V"⟩, 28), (⟨"StepperTableModel", "advanceToken", "()V"⟩, 28), (⟨"StepperTableModel", "byteAt", "(I)I"⟩, 28), (⟨"StepperTableModel", "readText", "()Z"⟩, 28)]
theorem lw_r3 : ∀ q ∈ lw_privs_3, lw_okq q := List.forall_mem_cons.mpr ⟨lw_p32, List.forall_mem_cons.mpr ⟨lw_p33, List.forall_mem_cons.mpr ⟨lw_p34, List.forall_mem_cons.mpr ⟨lw_p35, List.forall_mem_cons.mpr ⟨lw_p36, List.forall_mem_cons.mpr ⟨lw_p37, List.forall_mem_cons.mpr ⟨lw_p38, List.forall_mem_cons.mpr ⟨lw_p39, List.forall_mem_cons.mpr ⟨lw_p40, List.forall_mem_cons.mpr ⟨lw_p41, List.forall_mem_cons.mpr ⟨lw_p42, List.forall_mem_cons.mpr ⟨lw_p43, List.forall_mem_cons.mpr ⟨lw_p44, List.forall_mem_cons.mpr ⟨lw_p45, List.forall_mem_cons.mpr ⟨lw_p46, List.forall_mem_cons.mpr ⟨lw_p47, fun _ h => absurd h List.not_mem_nil⟩⟩⟩⟩⟩⟩⟩⟩⟩⟩⟩⟩⟩⟩⟩⟩
theorem lw_p48 : lw_okq (⟨"StepperTableModel", "readStatement", "()Z"⟩, 28) := ⟨⟨by decide +kernel, by decide +kernel⟩, List.mem_of_getElem? (i := 1459) (by decide +kernel), List.mem_of_getElem? (i := 1606) (by decide +kernel), List.mem_of_getElem? (i := 1607) (by decide +kernel)⟩
theorem lw_p49 : lw_okq (⟨"StepperTableModel", "isWord", "(Ljava/lang/String;)Z"⟩, 28) := ⟨⟨by decide +kernel, by decide +kernel⟩, List.mem_of_getElem? (i := 1459) (by decide +kernel), List.mem_of_getElem? (i := 1611) (by decide +kernel), List.mem_of_getElem? (i := 1612) (by decide +kernel)⟩
theorem lw_p50 : lw_okq (⟨"StepperTableModel", "tokenLength", "()I"⟩, 28) := ⟨⟨by decide +kernel, by decide +kernel⟩, List.mem_of_getElem? (i := 1459) (by decide +kernel), List.mem_of_getElem? (i := 1615) (by decide +kernel), List.mem_of_getElem? (i := 1616) (by decide +kernel)⟩
theorem lw_p51 : lw_okq (⟨"StepperTableModel", "readAxis", "(I)Z"⟩, 28) := ⟨⟨by decide +kernel, by decide +kernel⟩, List.mem_of_getElem? (i := 1459) (by decide +kernel), List.mem_of_getElem? (i := 1621) (by decide +kernel), List.mem_of_getElem? (i := 1622) (by decide +kernel)⟩
theorem lw_p52 : lw_okq (⟨"StepperTableModel", "startsOnce", "(IZ)Z"⟩, 28) := ⟨⟨by decide +kernel, by decide +kernel⟩, List.mem_of_getElem? (i := 1459) (by decide +kernel), List.mem_of_getElem? (i := 1625) (by decide +kernel), List.mem_of_getElem? (i := 1626) (by decide +kernel)⟩
theorem lw_p53 : lw_okq (⟨"StepperTableModel", "failsAt", "(I)Z"⟩, 28) := ⟨⟨by decide +kernel, by decide +kernel⟩, List.mem_of_getElem? (i := 1459) (by decide +kernel), List.mem_of_getElem? (i := 1629) (by decide +kernel), List.mem_of_getElem? (i := 1630) (by decide +kernel)⟩
theorem lw_p54 : lw_okq (⟨"StepperTableModel", "takesInto", "(IJJ)Z"⟩, 28) := ⟨⟨by decide +kernel, by decide +kernel⟩, List.mem_of_getElem? (i := 1459) (by decide +kernel), List.mem_of_getElem? (i := 1634) (by decide +kernel), List.mem_of_getElem? (i := 1635) (by decide +kernel)⟩
theorem lw_p55 : lw_okq (⟨"StepperTableModel", "readBegin", "()Z"⟩, 28) := ⟨⟨by decide +kernel, by decide +kernel⟩, List.mem_of_getElem? (i := 1459) (by decide +kernel), List.mem_of_getElem? (i := 1644) (by decide +kernel), List.mem_of_getElem? (i := 1645) (by decide +kernel)⟩
theorem lw_p56 : lw_okq (⟨"StepperTableModel", "of", "(I)I"⟩, 28) := ⟨⟨by decide +kernel, by decide +kernel⟩, List.mem_of_getElem? (i := 1459) (by decide +kernel), List.mem_of_getElem? (i := 1651) (by decide +kernel), List.mem_of_getElem? (i := 1652) (by decide +kernel)⟩
theorem lw_p57 : lw_okq (⟨"StepperTableModel", "fails", "(ZI)Z"⟩, 28) := ⟨⟨by decide +kernel, by decide +kernel⟩, List.mem_of_getElem? (i := 1459) (by decide +kernel), List.mem_of_getElem? (i := 1668) (by decide +kernel), List.mem_of_getElem? (i := 1669) (by decide +kernel)⟩
theorem lw_p58 : lw_okq (⟨"StepperTableModel", "homedMany", "()I"⟩, 28) := ⟨⟨by decide +kernel, by decide +kernel⟩, List.mem_of_getElem? (i := 1459) (by decide +kernel), List.mem_of_getElem? (i := 1672) (by decide +kernel), List.mem_of_getElem? (i := 1673) (by decide +kernel)⟩
theorem lw_p59 : lw_okq (⟨"StepperTableModel", "noAxis", "(I)Z"⟩, 28) := ⟨⟨by decide +kernel, by decide +kernel⟩, List.mem_of_getElem? (i := 1459) (by decide +kernel), List.mem_of_getElem? (i := 1680) (by decide +kernel), List.mem_of_getElem? (i := 1681) (by decide +kernel)⟩
theorem lw_p60 : lw_okq (⟨"StepperTableModel", "notHomed", "(II)Z"⟩, 28) := ⟨⟨by decide +kernel, by decide +kernel⟩, List.mem_of_getElem? (i := 1459) (by decide +kernel), List.mem_of_getElem? (i := 1689) (by decide +kernel), List.mem_of_getElem? (i := 1690) (by decide +kernel)⟩
theorem lw_p61 : lw_okq (⟨"StepperTableModel", "errorOf", "(I)I"⟩, 28) := ⟨⟨by decide +kernel, by decide +kernel⟩, List.mem_of_getElem? (i := 1459) (by decide +kernel), List.mem_of_getElem? (i := 1697) (by decide +kernel), List.mem_of_getElem? (i := 1698) (by decide +kernel)⟩
theorem lw_p62 : lw_okq (⟨"StepperTableModel", "reads", "(I)Z"⟩, 28) := ⟨⟨by decide +kernel, by decide +kernel⟩, List.mem_of_getElem? (i := 1459) (by decide +kernel), List.mem_of_getElem? (i := 1705) (by decide +kernel), List.mem_of_getElem? (i := 1706) (by decide +kernel)⟩
theorem lw_p63 : lw_okq (⟨"StepperTableModel", "isBusy", "()Z"⟩, 28) := ⟨⟨by decide +kernel, by decide +kernel⟩, List.mem_of_getElem? (i := 1459) (by decide +kernel), List.mem_of_getElem? (i := 1717) (by decide +kernel), List.mem_of_getElem? (i := 1718) (by decide +kernel)⟩
def lw_privs_4 : List (MethodName × Nat) := [(⟨"StepperTableModel", "readStatement", "()Z"⟩, 28), (⟨"StepperTableModel", "isWord", "(Ljava/lang/String;)Z"⟩, 28), (⟨"StepperTableModel", "tokenLength", "()I"⟩, 28), (⟨"StepperTableModel", "readAxis", "(I)Z"⟩, 28), (⟨"StepperTableModel", "startsOnce", "(IZ)Z"⟩, 28), (⟨"StepperTableModel", "failsAt", "(I)Z"⟩, 28), (⟨"StepperTableModel", "takesInto", "(IJJ)Z"⟩, 28), (⟨"StepperTableModel", "readBegin", "()Z"⟩, 28), (⟨"StepperTableModel", "of", "(I)I"⟩, 28), (⟨"StepperTableModel", "fails", "(ZI)Z"⟩, 28), (⟨"StepperTableModel", "homedMany", "()I"⟩, 28), (⟨"StepperTableModel", "noAxis", "(I)Z"⟩, 28), (⟨"StepperTableModel", "notHomed", "(II)Z"⟩, 28), (⟨"StepperTableModel", "errorOf", "(I)I"⟩, 28), (⟨"StepperTableModel", "reads", "(I)Z"⟩, 28), (⟨"StepperTableModel", "isBusy", "()Z"⟩, 28)]
theorem lw_r4 : ∀ q ∈ lw_privs_4, lw_okq q := List.forall_mem_cons.mpr ⟨lw_p48, List.forall_mem_cons.mpr ⟨lw_p49, List.forall_mem_cons.mpr ⟨lw_p50, List.forall_mem_cons.mpr ⟨lw_p51, List.forall_mem_cons.mpr ⟨lw_p52, List.forall_mem_cons.mpr ⟨lw_p53, List.forall_mem_cons.mpr ⟨lw_p54, List.forall_mem_cons.mpr ⟨lw_p55, List.forall_mem_cons.mpr ⟨lw_p56, List.forall_mem_cons.mpr ⟨lw_p57, List.forall_mem_cons.mpr ⟨lw_p58, List.forall_mem_cons.mpr ⟨lw_p59, List.forall_mem_cons.mpr ⟨lw_p60, List.forall_mem_cons.mpr ⟨lw_p61, List.forall_mem_cons.mpr ⟨lw_p62, List.forall_mem_cons.mpr ⟨lw_p63, fun _ h => absurd h List.not_mem_nil⟩⟩⟩⟩⟩⟩⟩⟩⟩⟩⟩⟩⟩⟩⟩⟩
theorem lw_p64 : lw_okq (⟨"StepperTableModel", "remembers", "()V"⟩, 28) := ⟨⟨by decide +kernel, by decide +kernel⟩, List.mem_of_getElem? (i := 1459) (by decide +kernel), List.mem_of_getElem? (i := 1721) (by decide +kernel), List.mem_of_getElem? (i := 1722) (by decide +kernel)⟩
theorem lw_p65 : lw_okq (⟨"StepperTableModel", "homes", "(I)I"⟩, 28) := ⟨⟨by decide +kernel, by decide +kernel⟩, List.mem_of_getElem? (i := 1459) (by decide +kernel), List.mem_of_getElem? (i := 1725) (by decide +kernel), List.mem_of_getElem? (i := 1726) (by decide +kernel)⟩
theorem lw_p66 : lw_okq (⟨"StepperTableModel", "slowTime", "()J"⟩, 28) := ⟨⟨by decide +kernel, by decide +kernel⟩, List.mem_of_getElem? (i := 1459) (by decide +kernel), List.mem_of_getElem? (i := 1729) (by decide +kernel), List.mem_of_getElem? (i := 1730) (by decide +kernel)⟩
theorem lw_p67 : lw_okq (⟨"StepperTableModel", "seeks", "(IZIJ)I"⟩, 28) := ⟨⟨by decide +kernel, by decide +kernel⟩, List.mem_of_getElem? (i := 1459) (by decide +kernel), List.mem_of_getElem? (i := 1734) (by decide +kernel), List.mem_of_getElem? (i := 1735) (by decide +kernel)⟩
theorem lw_p68 : lw_okq (⟨"StepperTableModel", "steps", "(II)Z"⟩, 28) := ⟨⟨by decide +kernel, by decide +kernel⟩, List.mem_of_getElem? (i := 1459) (by decide +kernel), List.mem_of_getElem? (i := 1738) (by decide +kernel), List.mem_of_getElem? (i := 1739) (by decide +kernel)⟩
theorem lw_p69 : lw_okq (⟨"StepperTableModel", "isPoint", "(III)Z"⟩, 28) := ⟨⟨by decide +kernel, by decide +kernel⟩, List.mem_of_getElem? (i := 1459) (by decide +kernel), List.mem_of_getElem? (i := 1762) (by decide +kernel), List.mem_of_getElem? (i := 1763) (by decide +kernel)⟩
theorem lw_p70 : lw_okq (⟨"StepperTableModel", "queued", "(IIII)I"⟩, 28) := ⟨⟨by decide +kernel, by decide +kernel⟩, List.mem_of_getElem? (i := 1459) (by decide +kernel), List.mem_of_getElem? (i := 1766) (by decide +kernel), List.mem_of_getElem? (i := 1767) (by decide +kernel)⟩
theorem lw_p71 : lw_okq (⟨"StepperTableModel", "mayQueue", "()Z"⟩, 28) := ⟨⟨by decide +kernel, by decide +kernel⟩, List.mem_of_getElem? (i := 1459) (by decide +kernel), List.mem_of_getElem? (i := 1770) (by decide +kernel), List.mem_of_getElem? (i := 1771) (by decide +kernel)⟩
theorem lw_p72 : lw_okq (⟨"StepperTableModel", "begins", "()V"⟩, 28) := ⟨⟨by decide +kernel, by decide +kernel⟩, List.mem_of_getElem? (i := 1459) (by decide +kernel), List.mem_of_getElem? (i := 1775) (by decide +kernel), List.mem_of_getElem? (i := 1776) (by decide +kernel)⟩
theorem lw_p73 : lw_okq (⟨"StepperTableModel", "puts", "(IIII)V"⟩, 28) := ⟨⟨by decide +kernel, by decide +kernel⟩, List.mem_of_getElem? (i := 1459) (by decide +kernel), List.mem_of_getElem? (i := 1779) (by decide +kernel), List.mem_of_getElem? (i := 1780) (by decide +kernel)⟩
theorem lw_p74 : lw_okq (⟨"StepperTableModel", "leadsNowhere", "()Z"⟩, 28) := ⟨⟨by decide +kernel, by decide +kernel⟩, List.mem_of_getElem? (i := 1459) (by decide +kernel), List.mem_of_getElem? (i := 1783) (by decide +kernel), List.mem_of_getElem? (i := 1784) (by decide +kernel)⟩
theorem lw_p75 : lw_okq (⟨"StepperTableModel", "beginOf", "(II)I"⟩, 28) := ⟨⟨by decide +kernel, by decide +kernel⟩, List.mem_of_getElem? (i := 1459) (by decide +kernel), List.mem_of_getElem? (i := 1787) (by decide +kernel), List.mem_of_getElem? (i := 1788) (by decide +kernel)⟩
theorem lw_p76 : lw_okq (⟨"StepperTableModel", "ends", "()V"⟩, 28) := ⟨⟨by decide +kernel, by decide +kernel⟩, List.mem_of_getElem? (i := 1459) (by decide +kernel), List.mem_of_getElem? (i := 1791) (by decide +kernel), List.mem_of_getElem? (i := 1792) (by decide +kernel)⟩
theorem lw_p77 : lw_okq (⟨"StepperTableModel", "noMove", "(I)Z"⟩, 28) := ⟨⟨by decide +kernel, by decide +kernel⟩, List.mem_of_getElem? (i := 1459) (by decide +kernel), List.mem_of_getElem? (i := 1807) (by decide +kernel), List.mem_of_getElem? (i := 1808) (by decide +kernel)⟩
theorem lw_p78 : lw_okq (⟨"StepperTableModel", "takesOut", "(I)V"⟩, 28) := ⟨⟨by decide +kernel, by decide +kernel⟩, List.mem_of_getElem? (i := 1459) (by decide +kernel), List.mem_of_getElem? (i := 1811) (by decide +kernel), List.mem_of_getElem? (i := 1812) (by decide +kernel)⟩
theorem lw_p79 : lw_okq (⟨"StepperTableModel", "swaps", "(II)V"⟩, 28) := ⟨⟨by decide +kernel, by decide +kernel⟩, List.mem_of_getElem? (i := 1459) (by decide +kernel), List.mem_of_getElem? (i := 1819) (by decide +kernel), List.mem_of_getElem? (i := 1820) (by decide +kernel)⟩
def lw_privs_5 : List (MethodName × Nat) := [(⟨"StepperTableModel", "remembers", "()V"⟩, 28), (⟨"StepperTableModel", "homes", "(I)I"⟩, 28), (⟨"StepperTableModel", "slowTime", "()J"⟩, 28), (⟨"StepperTableModel", "seeks", "(IZIJ)I"⟩, 28), (⟨"StepperTableModel", "steps", "(II)Z"⟩, 28), (⟨"StepperTableModel", "isPoint", "(III)Z"⟩, 28), (⟨"StepperTableModel", "queued", "(IIII)I"⟩, 28), (⟨"StepperTableModel", "mayQueue", "()Z"⟩, 28), (⟨"StepperTableModel", "begins", "()V"⟩, 28), (⟨"StepperTableModel", "puts", "(IIII)V"⟩, 28), (⟨"StepperTableModel", "leadsNowhere", "()Z"⟩, 28), (⟨"StepperTableModel", "beginOf", "(II)I"⟩, 28), (⟨"StepperTableModel", "ends", "()V"⟩, 28), (⟨"StepperTableModel", "noMove", "(I)Z"⟩, 28), (⟨"StepperTableModel", "takesOut", "(I)V"⟩, 28), (⟨"StepperTableModel", "swaps", "(II)V"⟩, 28)]
theorem lw_r5 : ∀ q ∈ lw_privs_5, lw_okq q := List.forall_mem_cons.mpr ⟨lw_p64, List.forall_mem_cons.mpr ⟨lw_p65, List.forall_mem_cons.mpr ⟨lw_p66, List.forall_mem_cons.mpr ⟨lw_p67, List.forall_mem_cons.mpr ⟨lw_p68, List.forall_mem_cons.mpr ⟨lw_p69, List.forall_mem_cons.mpr ⟨lw_p70, List.forall_mem_cons.mpr ⟨lw_p71, List.forall_mem_cons.mpr ⟨lw_p72, List.forall_mem_cons.mpr ⟨lw_p73, List.forall_mem_cons.mpr ⟨lw_p74, List.forall_mem_cons.mpr ⟨lw_p75, List.forall_mem_cons.mpr ⟨lw_p76, List.forall_mem_cons.mpr ⟨lw_p77, List.forall_mem_cons.mpr ⟨lw_p78, List.forall_mem_cons.mpr ⟨lw_p79, fun _ h => absurd h List.not_mem_nil⟩⟩⟩⟩⟩⟩⟩⟩⟩⟩⟩⟩⟩⟩⟩⟩
theorem lw_p80 : lw_okq (⟨"StepperTableModel", "straightMany", "()I"⟩, 28) := ⟨⟨by decide +kernel, by decide +kernel⟩, List.mem_of_getElem? (i := 1459) (by decide +kernel), List.mem_of_getElem? (i := 1823) (by decide +kernel), List.mem_of_getElem? (i := 1824) (by decide +kernel)⟩
theorem lw_p81 : lw_okq (⟨"StepperTableModel", "laysPlan", "()V"⟩, 28) := ⟨⟨by decide +kernel, by decide +kernel⟩, List.mem_of_getElem? (i := 1459) (by decide +kernel), List.mem_of_getElem? (i := 1827) (by decide +kernel), List.mem_of_getElem? (i := 1828) (by decide +kernel)⟩
theorem lw_p82 : lw_okq (⟨"StepperTableModel", "laysMove", "(I)V"⟩, 28) := ⟨⟨by decide +kernel, by decide +kernel⟩, List.mem_of_getElem? (i := 1459) (by decide +kernel), List.mem_of_getElem? (i := 1831) (by decide +kernel), List.mem_of_getElem? (i := 1832) (by decide +kernel)⟩
theorem lw_p83 : lw_okq (⟨"StepperTableModel", "isStraight", "(I)Z"⟩, 28) := ⟨⟨by decide +kernel, by decide +kernel⟩, List.mem_of_getElem? (i := 1459) (by decide +kernel), List.mem_of_getElem? (i := 1837) (by decide +kernel), List.mem_of_getElem? (i := 1838) (by decide +kernel)⟩
theorem lw_p84 : lw_okq (⟨"StepperTableModel", "makes", "(I)I"⟩, 28) := ⟨⟨by decide +kernel, by decide +kernel⟩, List.mem_of_getElem? (i := 1459) (by decide +kernel), List.mem_of_getElem? (i := 1845) (by decide +kernel), List.mem_of_getElem? (i := 1846) (by decide +kernel)⟩
theorem lw_p85 : lw_okq (⟨"StepperTableModel", "makesMove", "(I)Z"⟩, 28) := ⟨⟨by decide +kernel, by decide +kernel⟩, List.mem_of_getElem? (i := 1459) (by decide +kernel), List.mem_of_getElem? (i := 1849) (by decide +kernel), List.mem_of_getElem? (i := 1850) (by decide +kernel)⟩
theorem lw_p86 : lw_okq (⟨"StepperTableModel", "makesUp", "(II)Z"⟩, 28) := ⟨⟨by decide +kernel, by decide +kernel⟩, List.mem_of_getElem? (i := 1459) (by decide +kernel), List.mem_of_getElem? (i := 1853) (by decide +kernel), List.mem_of_getElem? (i := 1854) (by decide +kernel)⟩
theorem lw_p87 : lw_okq (⟨"StepperTableModel", "makesStep", "(II)Z"⟩, 28) := ⟨⟨by decide +kernel, by decide +kernel⟩, List.mem_of_getElem? (i := 1459) (by decide +kernel), List.mem_of_getElem? (i := 1857) (by decide +kernel), List.mem_of_getElem? (i := 1858) (by decide +kernel)⟩
theorem lw_p88 : lw_okq (⟨"StepperTableModel", "lasts", "(II)J"⟩, 28) := ⟨⟨by decide +kernel, by decide +kernel⟩, List.mem_of_getElem? (i := 1459) (by decide +kernel), List.mem_of_getElem? (i := 1861) (by decide +kernel), List.mem_of_getElem? (i := 1862) (by decide +kernel)⟩
theorem lw_p89 : lw_okq (⟨"StepperTableModel", "speedAt", "(II)I"⟩, 28) := ⟨⟨by decide +kernel, by decide +kernel⟩, List.mem_of_getElem? (i := 1459) (by decide +kernel), List.mem_of_getElem? (i := 1865) (by decide +kernel), List.mem_of_getElem? (i := 1866) (by decide +kernel)⟩
theorem lw_p90 : lw_okq (⟨"StepperTableModel", "made", "(III)I"⟩, 28) := ⟨⟨by decide +kernel, by decide +kernel⟩, List.mem_of_getElem? (i := 1459) (by decide +kernel), List.mem_of_getElem? (i := 1869) (by decide +kernel), List.mem_of_getElem? (i := 1870) (by decide +kernel)⟩
theorem lw_p91 : lw_okq (⟨"StepperTableModel", "stops", "()V"⟩, 28) := ⟨⟨by decide +kernel, by decide +kernel⟩, List.mem_of_getElem? (i := 1459) (by decide +kernel), List.mem_of_getElem? (i := 1874) (by decide +kernel), List.mem_of_getElem? (i := 1875) (by decide +kernel)⟩
theorem lw_p92 : lw_okq (⟨"StepperTableModel", "sets", "(IZ)Z"⟩, 28) := ⟨⟨by decide +kernel, by decide +kernel⟩, List.mem_of_getElem? (i := 1459) (by decide +kernel), List.mem_of_getElem? (i := 1890) (by decide +kernel), List.mem_of_getElem? (i := 1891) (by decide +kernel)⟩
theorem lw_p93 : lw_okq (⟨"StepperTableModel", "noPart", "(II)Z"⟩, 28) := ⟨⟨by decide +kernel, by decide +kernel⟩, List.mem_of_getElem? (i := 1459) (by decide +kernel), List.mem_of_getElem? (i := 1910) (by decide +kernel), List.mem_of_getElem? (i := 1911) (by decide +kernel)⟩
theorem lw_p94 : lw_okq (⟨"StepperTableModel", "fastest", "(I)I"⟩, 28) := ⟨⟨by decide +kernel, by decide +kernel⟩, List.mem_of_getElem? (i := 1459) (by decide +kernel), List.mem_of_getElem? (i := 1919) (by decide +kernel), List.mem_of_getElem? (i := 1920) (by decide +kernel)⟩
theorem lw_p95 : lw_okq (⟨"StepperTableModel", "fastSteps", "(I)I"⟩, 28) := ⟨⟨by decide +kernel, by decide +kernel⟩, List.mem_of_getElem? (i := 1459) (by decide +kernel), List.mem_of_getElem? (i := 1923) (by decide +kernel), List.mem_of_getElem? (i := 1924) (by decide +kernel)⟩
def lw_privs_6 : List (MethodName × Nat) := [(⟨"StepperTableModel", "straightMany", "()I"⟩, 28), (⟨"StepperTableModel", "laysPlan", "()V"⟩, 28), (⟨"StepperTableModel", "laysMove", "(I)V"⟩, 28), (⟨"StepperTableModel", "isStraight", "(I)Z"⟩, 28), (⟨"StepperTableModel", "makes", "(I)I"⟩, 28), (⟨"StepperTableModel", "makesMove", "(I)Z"⟩, 28), (⟨"StepperTableModel", "makesUp", "(II)Z"⟩, 28), (⟨"StepperTableModel", "makesStep", "(II)Z"⟩, 28), (⟨"StepperTableModel", "lasts", "(II)J"⟩, 28), (⟨"StepperTableModel", "speedAt", "(II)I"⟩, 28), (⟨"StepperTableModel", "made", "(III)I"⟩, 28), (⟨"StepperTableModel", "stops", "()V"⟩, 28), (⟨"StepperTableModel", "sets", "(IZ)Z"⟩, 28), (⟨"StepperTableModel", "noPart", "(II)Z"⟩, 28), (⟨"StepperTableModel", "fastest", "(I)I"⟩, 28), (⟨"StepperTableModel", "fastSteps", "(I)I"⟩, 28)]
theorem lw_r6 : ∀ q ∈ lw_privs_6, lw_okq q := List.forall_mem_cons.mpr ⟨lw_p80, List.forall_mem_cons.mpr ⟨lw_p81, List.forall_mem_cons.mpr ⟨lw_p82, List.forall_mem_cons.mpr ⟨lw_p83, List.forall_mem_cons.mpr ⟨lw_p84, List.forall_mem_cons.mpr ⟨lw_p85, List.forall_mem_cons.mpr ⟨lw_p86, List.forall_mem_cons.mpr ⟨lw_p87, List.forall_mem_cons.mpr ⟨lw_p88, List.forall_mem_cons.mpr ⟨lw_p89, List.forall_mem_cons.mpr ⟨lw_p90, List.forall_mem_cons.mpr ⟨lw_p91, List.forall_mem_cons.mpr ⟨lw_p92, List.forall_mem_cons.mpr ⟨lw_p93, List.forall_mem_cons.mpr ⟨lw_p94, List.forall_mem_cons.mpr ⟨lw_p95, fun _ h => absurd h List.not_mem_nil⟩⟩⟩⟩⟩⟩⟩⟩⟩⟩⟩⟩⟩⟩⟩⟩
theorem lw_p96 : lw_okq (⟨"StepperTableModel", "noSteps", "(III)Z"⟩, 28) := ⟨⟨by decide +kernel, by decide +kernel⟩, List.mem_of_getElem? (i := 1459) (by decide +kernel), List.mem_of_getElem? (i := 1935) (by decide +kernel), List.mem_of_getElem? (i := 1936) (by decide +kernel)⟩
theorem lw_p97 : lw_okq (⟨"StepperTableModel", "nearestOf", "(JJJI)I"⟩, 28) := ⟨⟨by decide +kernel, by decide +kernel⟩, List.mem_of_getElem? (i := 1459) (by decide +kernel), List.mem_of_getElem? (i := 1975) (by decide +kernel), List.mem_of_getElem? (i := 1976) (by decide +kernel)⟩
theorem lw_p98 : lw_okq (⟨"StepperTableModel", "lineOf", "(I)D"⟩, 28) := ⟨⟨by decide +kernel, by decide +kernel⟩, List.mem_of_getElem? (i := 1459) (by decide +kernel), List.mem_of_getElem? (i := 1998) (by decide +kernel), List.mem_of_getElem? (i := 1999) (by decide +kernel)⟩
theorem lw_p99 : lw_okq (⟨"StepperTableModel", "timeOf", "(I)J"⟩, 28) := ⟨⟨by decide +kernel, by decide +kernel⟩, List.mem_of_getElem? (i := 1459) (by decide +kernel), List.mem_of_getElem? (i := 2018) (by decide +kernel), List.mem_of_getElem? (i := 2019) (by decide +kernel)⟩
theorem lw_p100 : lw_okq (⟨"StepperTableModel", "thoughtTime", "(I)J"⟩, 28) := ⟨⟨by decide +kernel, by decide +kernel⟩, List.mem_of_getElem? (i := 1459) (by decide +kernel), List.mem_of_getElem? (i := 2022) (by decide +kernel), List.mem_of_getElem? (i := 2023) (by decide +kernel)⟩
theorem lw_p101 : lw_okq (⟨"StepperTableModel", "passesUp", "(I)V"⟩, 28) := ⟨⟨by decide +kernel, by decide +kernel⟩, List.mem_of_getElem? (i := 1459) (by decide +kernel), List.mem_of_getElem? (i := 2035) (by decide +kernel), List.mem_of_getElem? (i := 2036) (by decide +kernel)⟩
theorem lw_p102 : lw_okq (⟨"StepperTableModel", "lostMany", "()I"⟩, 28) := ⟨⟨by decide +kernel, by decide +kernel⟩, List.mem_of_getElem? (i := 1459) (by decide +kernel), List.mem_of_getElem? (i := 2051) (by decide +kernel), List.mem_of_getElem? (i := 2052) (by decide +kernel)⟩
theorem lw_p103 : lw_okq (⟨"StepperTableModel", "timeWithFirst", "(I)J"⟩, 28) := ⟨⟨by decide +kernel, by decide +kernel⟩, List.mem_of_getElem? (i := 1459) (by decide +kernel), List.mem_of_getElem? (i := 2067) (by decide +kernel), List.mem_of_getElem? (i := 2068) (by decide +kernel)⟩
theorem lw_p104 : lw_okq (⟨"StepperTableModel", "leavesOut", "()V"⟩, 28) := ⟨⟨by decide +kernel, by decide +kernel⟩, List.mem_of_getElem? (i := 1459) (by decide +kernel), List.mem_of_getElem? (i := 2071) (by decide +kernel), List.mem_of_getElem? (i := 2072) (by decide +kernel)⟩
theorem lw_p105 : lw_okq (⟨"StepperTableModel", "write", "(I)V"⟩, 28) := ⟨⟨by decide +kernel, by decide +kernel⟩, List.mem_of_getElem? (i := 1459) (by decide +kernel), List.mem_of_getElem? (i := 2099) (by decide +kernel), List.mem_of_getElem? (i := 2100) (by decide +kernel)⟩
theorem lw_p106 : lw_okq (⟨"StepperTableModel", "writeNumber", "(I)V"⟩, 28) := ⟨⟨by decide +kernel, by decide +kernel⟩, List.mem_of_getElem? (i := 1459) (by decide +kernel), List.mem_of_getElem? (i := 2103) (by decide +kernel), List.mem_of_getElem? (i := 2104) (by decide +kernel)⟩
def lw_privs_7 : List (MethodName × Nat) := [(⟨"StepperTableModel", "noSteps", "(III)Z"⟩, 28), (⟨"StepperTableModel", "nearestOf", "(JJJI)I"⟩, 28), (⟨"StepperTableModel", "lineOf", "(I)D"⟩, 28), (⟨"StepperTableModel", "timeOf", "(I)J"⟩, 28), (⟨"StepperTableModel", "thoughtTime", "(I)J"⟩, 28), (⟨"StepperTableModel", "passesUp", "(I)V"⟩, 28), (⟨"StepperTableModel", "lostMany", "()I"⟩, 28), (⟨"StepperTableModel", "timeWithFirst", "(I)J"⟩, 28), (⟨"StepperTableModel", "leavesOut", "()V"⟩, 28), (⟨"StepperTableModel", "write", "(I)V"⟩, 28), (⟨"StepperTableModel", "writeNumber", "(I)V"⟩, 28)]
theorem lw_r7 : ∀ q ∈ lw_privs_7, lw_okq q := List.forall_mem_cons.mpr ⟨lw_p96, List.forall_mem_cons.mpr ⟨lw_p97, List.forall_mem_cons.mpr ⟨lw_p98, List.forall_mem_cons.mpr ⟨lw_p99, List.forall_mem_cons.mpr ⟨lw_p100, List.forall_mem_cons.mpr ⟨lw_p101, List.forall_mem_cons.mpr ⟨lw_p102, List.forall_mem_cons.mpr ⟨lw_p103, List.forall_mem_cons.mpr ⟨lw_p104, List.forall_mem_cons.mpr ⟨lw_p105, List.forall_mem_cons.mpr ⟨lw_p106, fun _ h => absurd h List.not_mem_nil⟩⟩⟩⟩⟩⟩⟩⟩⟩⟩⟩
def lw_privs : List (MethodName × Nat) := lw_privs_1 ++ (lw_privs_2 ++ (lw_privs_3 ++ (lw_privs_4 ++ (lw_privs_5 ++ (lw_privs_6 ++ (lw_privs_7))))))
def lw_tbl : List Cond := k2_sels lw_privs ++ tables_1
theorem lw_privs_ok : ∀ q ∈ lw_privs, lw_okq q := by
  show ∀ q ∈ lw_privs_1 ++ (lw_privs_2 ++ (lw_privs_3 ++ (lw_privs_4 ++ (lw_privs_5 ++ (lw_privs_6 ++ (lw_privs_7)))))), lw_okq q
  exact List.forall_mem_append.mpr ⟨lw_r1, List.forall_mem_append.mpr ⟨lw_r2, List.forall_mem_append.mpr ⟨lw_r3, List.forall_mem_append.mpr ⟨lw_r4, List.forall_mem_append.mpr ⟨lw_r5, List.forall_mem_append.mpr ⟨lw_r6, lw_r7⟩⟩⟩⟩⟩⟩
/-- the streams that the claim lets the run draw from -/
abbrev lw_cs : List Choice := [Jvm.Choice.named "NaN.bits"]
theorem lw_bits : nanBits ∈ lw_cs := by first | decide | exact List.mem_cons_self | simp [lw_cs, nanBits]
end
section
/-! ===== BEGIN words of one list among another's, by their places ===== -/
theorem goodIn_r {big : List Cond} (ws : List Cond) (ps : List Nat) (hp : ws = ps.filterMap (fun i => big[i]?)) (h : ws.all goodWord = true) : GoodIn big ws := by
  intro w hw
  have h1 := List.all_eq_true.mp h w hw
  rw [hp] at hw
  obtain ⟨i, -, hi⟩ := List.mem_filterMap.mp hw
  have hm : w ∈ big := by first | exact List.mem_of_getElem? hi | exact List.getElem?_mem hi
  exact ⟨hm, good_of_word h1⟩
theorem goodIn_app {big a b : List Cond} (ha : GoodIn big a) (hb : GoodIn big b) : GoodIn big (a ++ b) := fun w h => (List.mem_append.mp h).elim (ha w) (hb w)
theorem goodIn_ca {big a b : List Cond} {c : Cond} (ha : GoodIn big (c :: a)) (hb : GoodIn big b) : GoodIn big (c :: (a ++ b)) := fun w h => (List.mem_cons.mp h).elim (fun e => ha w (List.mem_cons.mpr (Or.inl e))) (fun h => (List.mem_append.mp h).elim (fun h => ha w (List.mem_cons.mpr (Or.inr h))) (hb w))
theorem goodIn_sub {big ws : List Cond} (hm : ∀ w ∈ ws, w ∈ big) (h : ws.all goodWord = true) : GoodIn big ws := fun w hw => ⟨hm w hw, good_of_word (List.all_eq_true.mp h w hw)⟩
/-! ===== END ===== -/
/-! ===== BEGIN exceptions that leave a method, and their catching by the caller (launches without stack traces) ===== -/
section VXA
/-! The laws vx_back, vx_callV, vx_callS, vx_callSW, vx_throw0, vx_throwS follow proofs of the library, with one case more: JvmDerived/Free/Laws.lean (Back.of_free), Shelf42/LK1.lean (callV, callS), Shelf/KitTraced.lean (throwNew0V, throwNewS). -/
/-- where a method has thrown q: the class by its name, the cell, what was written, the world -/
def vx_T (XC : String → State → State → Prop) (st : State) (q : Addr) (t : State) (mc ms : Nat) (free : Addr → Prop) : Prop :=
  ∃ (E : String) (ce : Cell) (L : List Loc), XC E st t ∧ t.heap[q]? = some ce ∧ ce.vm = .none ∧ st.vm.findClass E = some ce.cls ∧ st.WarmedH t.vm ∧ st.sameButNew ({ t with vm := st.vm } : State) L mc ms ∧ ∀ z ∈ L, free z.base
def vx_Q (Qc : Array Value → State → Outcome → State → Prop) (XC : String → State → State → Prop) (mc ms : Nat) (free : Addr → Prop) : Array Value → State → Outcome → State → Prop := fun a st o t =>
  (Qc a st o t ∧ ∃ L, FrameEnd st o t L mc ms ∧ ∀ q ∈ L, free q.base) ∨ ∃ q, o = .threw q ∧ vx_T XC st q t mc ms free
/-- a callee that returns or throws -/
def vx_Met (l : Launch) (y : MethodName) (ws : List Cond) (rm : Room) (Pc : Array Value → State → Prop) (Qc : Array Value → State → Outcome → State → Prop) (XC : String → State → State → Prop) (mc ms : Nat) (free : Addr → Prop) : Prop :=
  MetFree l y (headSpec ws rm) Pc (fun _ _ _ _ _ => True) (vx_Q Qc XC mc ms free)
def vx_Post (XC : String → State → State → Prop) (mc ms : Nat) (free : Addr → Prop) : Pt → Array Value → Addr → Pt → Prop := fun A a q B =>
  ∃ (g : JFrame) (mk : MethodId) (t : State) (L : List Loc) (E : String) (ce : Cell), B.U.heap = t.heap ∧ B.U.vm = t.vm ∧ XC E (A.U.calling g mk a) t ∧ t.heap[q]? = some ce ∧ ce.vm = .none ∧ A.U.vm.findClass E = some ce.cls ∧ B.locs = A.locs ++ L ∧ (∀ z ∈ L, free z.base) ∧ B.cells = A.cells + mc ∧ B.slots = A.slots + ms
def vx_Back (l : Launch) (R : Room) (p : Program) (e : Env) (below : List Frame) (s : State) (sargs : Array Value) (y : MethodName) (len W9 : Nat)
    (Pre : Pt → Array Value → Prop) (Post : Pt → Array Value → Option Value → Pt → Prop) (PostX : Pt → Array Value → Addr → Pt → Prop) : Prop :=
  ∀ (m : MethodId) (meth : Method) (c : Code) (A : Pt) (g : JFrame) (ig : Instr) (mk : MethodId) (a : Array Value),
    Stand p l e R s m sargs below meth c A.U A.locs A.cells A.slots → g.method = m → g.locals.size = c.maxLocals → decode c.code g.pc = .ok (ig, len) →
    2 * g.monitorRoom + (g.stack.map fun v => v.category).sum ≤ W9 → A.U.methodNamed? y = some mk → Pre A a →
    (∃ (v : Option Value) (B : Pt), Stand p l e R s m sargs below meth c B.U B.locs B.cells B.slots ∧ Post A a v B ∧
      Steps p.tables e below (doInvoke e (A.U.setTop g) [] mk a).1 (B.U.setTop { g with pc := g.pc + len, stack := v.toList ++ g.stack })) ∨
    (∃ (q : Addr) (B : Pt), Stand p l e R s m sargs below meth c B.U B.locs B.cells B.slots ∧ PostX A a q B ∧
      Steps p.tables e below (doInvoke e (A.U.setTop g) [] mk a).1 ((B.U.setTop g).pushFrame (.throwing q)))
section Payer
variable {l : Launch} {R : Room} {p : Program} {e : Env} {below : List Frame} {s : State} {sargs : Array Value} {y : MethodName} {len W9 : Nat}
theorem vx_back {ws : List Cond} {rm : Room} {Pc : Array Value → State → Prop} {Qc : Array Value → State → Outcome → State → Prop} {XC : String → State → State → Prop} {mc ms : Nat} {free : Addr → Prop} {bytes : ByteArray} {maxL : Nat} {ret : Option FieldType}
    (hM : vx_Met l y ws rm Pc Qc XC mc ms free) (hblind : FrameBlind Pc) (hrc : rm.cells = mc) (hrs : rm.slots = ms)
    (hframes : rm.frames + 1 ≤ R.frames) (hlocals : W9 + (maxL + 11) + rm.locals ≤ R.locals)
    (hws : ∀ w ∈ ws, ∀ a' U, s.WarmedH U.vm → w.before a' U = true) (hcode : Cond.code y bytes maxL ret ∈ ws) (hinit : ∀ a' U, s.WarmedH U.vm → (Cond.initialized y.cls).before a' U = true) :
    vx_Back l R p e below s sargs y len W9 (PreOf R mc ms Pc) (PostOf Qc mc ms free) (vx_Post XC mc ms free) := by
  intro m meth c A g ig mk a X hg hsize hdg hW hn hp
  have h1 : (headSpec ws rm).pre.before a A.U = true := atoms_intro fun w hw => hws w hw _ _ X.warmed
  have h2 : (Cond.code y bytes maxL ret).before a A.U = true := hws _ hcode _ _ X.warmed
  have h3 : (Cond.initialized y.cls).before a A.U = true := hinit _ _ X.warmed
  have h4 : A.cells + (headSpec ws rm).room.cells ≤ R.cells := by rw [show (headSpec ws rm).room.cells = mc from hrc]; exact hp.1
  have h5 : A.slots + (headSpec ws rm).room.slots ≤ R.slots := by rw [show (headSpec ws rm).room.slots = ms from hrs]; exact hp.2.1
  have hPc : Pc a (A.U.calling g mk a) := hblind _ _ _ _ hp.2.2
  obtain ⟨U, Ls, c0, s0⟩ := A
  dsimp only [Pt.U, Pt.locs, Pt.cells, Pt.slots] at h1 h2 h3 h4 h5 X hn hPc ⊢
  obtain ⟨methY, cY, hmY, hcY, -, hlY, -, -, -, -⟩ := Cond.code_spec hn h2
  obtain ⟨kY, hkY, -⟩ := className_of_methodNamed hn
  have hinitY : kY.init = .initialized := Cond.initialized_spec (findClass_of_methodNamed hn) hkY h3
  have h : At U g.method c below := by rw [hg]; exact X.here
  have hlocals9 : W9 + (maxL + 11) + (headSpec ws rm).room.locals ≤ R.locals := hlocals
  have happ : (headSpec ws rm).appliesLoose y e.platform (U.calling g mk a) = true :=
    Spec.appliesLoose_calling (g := g) h hdg hn hkY hinitY
      (X.room_calling (g := g) (R' := (headSpec ws rm).room) hsize hmY hcY hframes (by rw [hlY]; omega) h4 h5) h1
  obtain ⟨mid, hmid⟩ := h.above
  have hfr : (U.setTop g).frames = (.java g :: mid) ++ below := by rw [State.frames_setTop' g h.top, hmid]; rfl
  obtain ⟨o, s₂, hsteps, -, hend, hq⟩ := Steps.callFree hM p X.admits X.cas X.clock (acts := []) hfr happ hPc trivial
  have hq' : vx_Q Qc XC mc ms free a (U.calling g mk a) o s₂ := hq
  rw [State.frames_setTop' g h.top] at hend
  obtain ⟨g₀, hg0⟩ := Option.isSome_iff_exists.mp h.top
  obtain ⟨r, hr⟩ := State.topJava?_eq_some.mp hg0
  have hr' : (({ U with heap := s₂.heap, slotsUsed := s₂.slotsUsed } : State).setVm s₂.vm).frames = .java g₀ :: r := hr
  rcases hq' with ⟨hqc, L, hfe, hL⟩ | ⟨q, rfl, E, ce, L, hx, hce, hcv, hcl, hW₂, hsm, hL⟩
  · obtain ⟨⟨v, rfl⟩, hW₂, e2, q2, q3, q4, q5, q6⟩ := id hfe
    have e3 : s₂ = ({ (U.calling g mk a).setFrames s₂.frames with heap := s₂.heap, slotsUsed := s₂.slotsUsed } : State).setVm s₂.vm := by
      have : s₂ = ({ s₂ with vm := (U.calling g mk a).vm } : State).setVm s₂.vm := rfl
      rw [e2] at this
      exact this
    obtain ⟨c₂, i₂, len₂, hc₂, hd₂, hf₂⟩ := hend
    have hW' : U.WarmedH s₂.vm := hW₂
    have hcc : c₂ = c := by
      have h1 : s₂.code? g.method = U.code? g.method := by
        rw [State.code?_eq, State.code?_eq, hW'.alike.method?]
      exact Option.some.inj (hc₂.symm.trans (h1.trans h.code))
    subst hcc
    have hlen : len₂ = len := by rw [hdg] at hd₂; cases hd₂; rfl
    subst hlen
    have hs₂ : s₂ = (({ U with heap := s₂.heap, slotsUsed := s₂.slotsUsed } : State).setVm s₂.vm).setTop { g with pc := g.pc + len₂, stack := v.toList ++ g.stack } := by
      refine e3.trans ?_
      rw [hf₂, State.calling_eq h.top, State.setFrames_setFrames, State.setTop_of_frames _ hr', hr]
      rfl
    have hsame : U.sameButNew ({ U with heap := s₂.heap, slotsUsed := s₂.slotsUsed } : State) L mc ms := by
      refine ⟨?_, q2, q3, q4, q5, q6⟩
      obtain ⟨t, ht, -⟩ := State.frames_cons hr
      show ({ U with heap := s₂.heap, slotsUsed := s₂.slotsUsed } : State) = { U.setFrames U.frames with heap := s₂.heap, slotsUsed := s₂.slotsUsed }
      rw [State.setFrames_self ht]
    subst hg
    refine Or.inl ⟨v, ⟨(({ U with heap := s₂.heap, slotsUsed := s₂.slotsUsed } : State).setVm s₂.vm), Ls ++ L, c0 + mc, s0 + ms⟩,
      ⟨X.admits, X.cas, X.clock, X.frames, X.room, X.hears, X.method, X.code, (X.here.setHeapUsed s₂.heap s₂.slotsUsed).setVm hW'.alike, X.tail, State.WarmedH.trans X.warmed hW', X.limits, X.bytes, X.same.trans (hsame.setVm s.vm)⟩,
      ⟨g, mk, s₂, L, rfl, rfl, hqc, rfl, hL, rfl, rfl⟩, ?_⟩
    show Steps p.tables e below _ ((({ U with heap := s₂.heap, slotsUsed := s₂.slotsUsed } : State).setVm s₂.vm).setTop { g with pc := g.pc + len₂, stack := v.toList ++ g.stack })
    rw [← hs₂]
    exact hsteps
  · obtain ⟨e2, q2, q3, q4, q5, q6⟩ := id hsm
    have e3 : s₂ = ({ (U.calling g mk a).setFrames s₂.frames with heap := s₂.heap, slotsUsed := s₂.slotsUsed } : State).setVm s₂.vm := by
      have : s₂ = ({ s₂ with vm := (U.calling g mk a).vm } : State).setVm s₂.vm := rfl
      rw [e2] at this
      exact this
    have hf₂ : s₂.frames = .throwing q :: .java g :: U.frames.tail := hend
    have hW' : U.WarmedH s₂.vm := hW₂
    have hs₂ : s₂ = ((({ U with heap := s₂.heap, slotsUsed := s₂.slotsUsed } : State).setVm s₂.vm).setTop g).pushFrame (.throwing q) := by
      refine e3.trans ?_
      rw [hf₂, State.calling_eq h.top, State.setFrames_setFrames, State.pushFrame, State.frames_setTop _ hr', State.setTop_of_frames _ hr', State.setFrames_setFrames, hr]
      rfl
    have hsame : U.sameButNew ({ U with heap := s₂.heap, slotsUsed := s₂.slotsUsed } : State) L mc ms := by
      refine ⟨?_, q2, q3, q4, q5, q6⟩
      obtain ⟨t, ht, -⟩ := State.frames_cons hr
      show ({ U with heap := s₂.heap, slotsUsed := s₂.slotsUsed } : State) = { U.setFrames U.frames with heap := s₂.heap, slotsUsed := s₂.slotsUsed }
      rw [State.setFrames_self ht]
    subst hg
    refine Or.inr ⟨q, ⟨(({ U with heap := s₂.heap, slotsUsed := s₂.slotsUsed } : State).setVm s₂.vm), Ls ++ L, c0 + mc, s0 + ms⟩,
      ⟨X.admits, X.cas, X.clock, X.frames, X.room, X.hears, X.method, X.code, (X.here.setHeapUsed s₂.heap s₂.slotsUsed).setVm hW'.alike, X.tail, State.WarmedH.trans X.warmed hW', X.limits, X.bytes, X.same.trans (hsame.setVm s.vm)⟩,
      ⟨g, mk, s₂, L, E, ce, rfl, rfl, hx, hce, hcv, hcl, rfl, hL, rfl, rfl⟩, ?_⟩
    show Steps p.tables e below _ (((({ U with heap := s₂.heap, slotsUsed := s₂.slotsUsed } : State).setVm s₂.vm).setTop g).pushFrame (.throwing q))
    rw [← hs₂]
    exact hsteps
end Payer
section Calls
variable {p : Program} {l : Launch} {e : Env} {R : Room} {s : State} {m : MethodId} {args : Array Value} {below : List Frame} {meth : Method} {c : Code} {T : State} {locs : List Loc} {cells slots : Nat}
theorem vx_callV (X : Stand p l e R s m args below meth c T locs cells slots) (hexec : p.tables.exec = Jvm.exec) {own C : String} {index : Nat} {y : MethodName} {bytes : ByteArray} {maxL : Nat} {ret : Option FieldType}
    (hown : s.vm.findClass own = some m.cls) (hlink : (Cond.methodLink own index y).before args s = true) (hinst : (Cond.instanceMethod y).before args s = true) (hsel : (Cond.selects C y y).before args s = true)
    (hcode : (Cond.code y bytes maxL ret).before args s = true) (hy : y.cls ≠ "java/lang/invoke/MethodHandle" ∧ y.cls ≠ "java/lang/invoke/VarHandle")
    {W9 : Nat} {Pre : Pt → Array Value → Prop} {Post : Pt → Array Value → Option Value → Pt → Prop} {PostX : Pt → Array Value → Addr → Pt → Prop} (hK : vx_Back l R p e below s args y 3 W9 Pre Post PostX)
    {b : Addr} {cellB : Cell} (hcell : T.heap[b]? = some cellB) (hobj : cellB.vm.isStatics = false) (hcls : s.vm.findClass C = some cellB.cls)
    {g : JFrame} (hg : g.method = m) (hsize : g.locals.size = c.maxLocals) {argsL rest : List Value} (hlen : ∀ sig, parseMethodDescriptor y.desc = some sig → argsL.length = sig.parameters.length)
    (hstack : g.stack = argsL.reverse ++ .ref b :: rest) (hW : 2 * g.monitorRoom + (rest.map fun v => v.category).sum ≤ W9) (hdg : decode c.code g.pc = .ok (.invokevirtual index, 3))
    (hpre : ∀ vm₁, s.WarmedH vm₁ → Pre ⟨T.setVm vm₁, locs, cells, slots⟩ (Value.ref b :: argsL).toArray) :
    (∃ (v : Option Value) (vm₁ : Vm) (B : Pt), s.WarmedH vm₁ ∧ Stand p l e R s m args below meth c B.U B.locs B.cells B.slots ∧ Post ⟨T.setVm vm₁, locs, cells, slots⟩ (Value.ref b :: argsL).toArray v B ∧
      ∀ target, Steps p.tables e below (B.U.setTop { g with pc := g.pc + 3, stack := v.toList ++ rest }) target → Steps p.tables e below (T.setTop g) target) ∨
    (∃ (q : Addr) (vm₁ : Vm) (B : Pt), s.WarmedH vm₁ ∧ Stand p l e R s m args below meth c B.U B.locs B.cells B.slots ∧ PostX ⟨T.setVm vm₁, locs, cells, slots⟩ (Value.ref b :: argsL).toArray q B ∧
      Steps p.tables e below (T.setTop g) ((B.U.setTop { g with stack := rest }).pushFrame (.throwing q))) := by
  obtain ⟨mk, methM, hnamed, hmethM, hstM, habM⟩ := Cond.instanceMethod_spec hinst
  obtain ⟨methM', cM, hmethM', -, -, -, -, -, -, hsigM⟩ := Cond.code_spec hnamed hcode
  cases hmethM.symm.trans hmethM'
  obtain ⟨c2, r2, m2, q1, q2, q3, q4, kP, hkP, hkPi⟩ := Cond.selects_spec hsel
  cases hcls.symm.trans q1
  cases (State.methodFound?_of_named hnamed hy).symm.trans q2
  cases hnamed.symm.trans q3
  have hselP : selectMethod e.platform s.vm cellB.cls mk = .method mk := by rw [Launch.admits_selectMethod X.admits]; exact q4
  obtain ⟨vm₁, X₁, hstep₁⟩ := X.invokevirtual hexec hown hlink hnamed hmethM hstM hkP hkPi hy (a := b) (cell := cellB) hcell
    (fun z h => by rw [h] at hobj; cases hobj) hselP hmethM habM hkP hkPi (g := g) hg (argsL := argsL) (rest := rest) (hlen _ hsigM) hstack hdg
  rcases hK m meth c ⟨T.setVm vm₁, locs, cells, slots⟩ { g with stack := rest } (.invokevirtual index) mk (Value.ref b :: argsL).toArray X₁ hg hsize hdg hW (X₁.named hnamed) (hpre vm₁ X₁.warmed) with ⟨v, B, X', hpost, hsteps⟩ | ⟨q, B, X', hpost, hsteps⟩
  · exact Or.inl ⟨v, vm₁, B, X₁.warmed, X', hpost, fun target h => hstep₁ _ fun acts => by rw [doInvoke_state]; exact hsteps.trans h⟩
  · exact Or.inr ⟨q, vm₁, B, X₁.warmed, X', hpost, hstep₁ _ fun acts => by rw [doInvoke_state]; exact hsteps⟩
theorem vx_callS (X : Stand p l e R s m args below meth c T locs cells slots) (hexec : p.tables.exec = Jvm.exec) {own : String} {index : Nat} {y : MethodName} {bytes : ByteArray} {maxL : Nat} {ret : Option FieldType}
    (hown : s.vm.findClass own = some m.cls) (hlink : (Cond.methodLink own index y).before args s = true) (hstat : (Cond.static y).before args s = true) (hinit : (Cond.initialized y.cls).before args s = true)
    (hcode : (Cond.code y bytes maxL ret).before args s = true) (hy : y.cls ≠ "java/lang/invoke/MethodHandle" ∧ y.cls ≠ "java/lang/invoke/VarHandle")
    {W9 : Nat} {Pre : Pt → Array Value → Prop} {Post : Pt → Array Value → Option Value → Pt → Prop} {PostX : Pt → Array Value → Addr → Pt → Prop} (hK : vx_Back l R p e below s args y 3 W9 Pre Post PostX)
    {g : JFrame} (hg : g.method = m) (hsize : g.locals.size = c.maxLocals) {argsL rest : List Value} (hlen : ∀ sig, parseMethodDescriptor y.desc = some sig → argsL.length = sig.parameters.length)
    (hstack : g.stack = argsL.reverse ++ rest) (hW : 2 * g.monitorRoom + (rest.map fun v => v.category).sum ≤ W9) (hdg : decode c.code g.pc = .ok (.invokestatic index, 3))
    (hpre : ∀ vm₁, s.WarmedH vm₁ → Pre ⟨T.setVm vm₁, locs, cells, slots⟩ argsL.toArray) :
    (∃ (v : Option Value) (vm₁ : Vm) (B : Pt), s.WarmedH vm₁ ∧ Stand p l e R s m args below meth c B.U B.locs B.cells B.slots ∧ Post ⟨T.setVm vm₁, locs, cells, slots⟩ argsL.toArray v B ∧
      ∀ target, Steps p.tables e below (B.U.setTop { g with pc := g.pc + 3, stack := v.toList ++ rest }) target → Steps p.tables e below (T.setTop g) target) ∨
    (∃ (q : Addr) (vm₁ : Vm) (B : Pt), s.WarmedH vm₁ ∧ Stand p l e R s m args below meth c B.U B.locs B.cells B.slots ∧ PostX ⟨T.setVm vm₁, locs, cells, slots⟩ argsL.toArray q B ∧
      Steps p.tables e below (T.setTop g) ((B.U.setTop { g with stack := rest }).pushFrame (.throwing q))) := by
  obtain ⟨mk, hnamed⟩ := Cond.code_named hcode
  obtain ⟨methM, cM, hmethM, -, -, -, -, -, -, hsigM⟩ := Cond.code_spec hnamed hcode
  have hstatic : methM.isStatic = true := Cond.static_spec hnamed hmethM hstat
  obtain ⟨kP, hkP, -⟩ := className_of_methodNamed hnamed
  have hinitP : kP.init = .initialized := Cond.initialized_spec (findClass_of_methodNamed hnamed) hkP hinit
  obtain ⟨vm₁, X₁, hstep₁⟩ := X.invokestatic hexec hown hlink hnamed hmethM hstatic hkP hinitP hy (g := g) hg (argsL := argsL) (rest := rest) (hlen _ hsigM) hstack hdg
  rcases hK m meth c ⟨T.setVm vm₁, locs, cells, slots⟩ { g with stack := rest } (.invokestatic index) mk argsL.toArray X₁ hg hsize hdg hW (X₁.named hnamed) (hpre vm₁ X₁.warmed) with ⟨v, B, X', hpost, hsteps⟩ | ⟨q, B, X', hpost, hsteps⟩
  · exact Or.inl ⟨v, vm₁, B, X₁.warmed, X', hpost, fun target h => hstep₁ _ fun acts => by rw [doInvoke_state]; exact hsteps.trans h⟩
  · exact Or.inr ⟨q, vm₁, B, X₁.warmed, X', hpost, hstep₁ _ fun acts => by rw [doInvoke_state]; exact hsteps⟩
end Calls
theorem vx_cls {s : State} {T : State} {vm₁ : Vm} {E : String} {k : ClassId} (hW : s.WarmedH vm₁) (h : (T.setVm vm₁).vm.findClass E = some k) : s.vm.findClass E = some k := by
  have h1 : vm₁.findClass E = some k := h
  rw [hW.alike.findClass] at h1
  exact h1
/-- the method's frame g, with q thrown over it -/
def vx_W (p : Program) (l : Launch) (e : Env) (R : Room) (s : State) (m : MethodId) (args : Array Value) (below : List Frame) (meth : Method) (c : Code) (H : Heap) (locs : List Loc) (cells slots : Nat) (Q : State → Prop) (g : JFrame) (q : Addr) : Prop :=
  ∀ T : State, T.heap = H → Stand p l e R s m args below meth c T locs cells slots → ∃ t, Steps p.tables e below ((T.setTop g).pushFrame (.throwing q)) t ∧ Q t
def vx_Run (p : Program) (l : Launch) (e : Env) (R : Room) (s : State) (m : MethodId) (args : Array Value) (below : List Frame) (meth : Method) (c : Code) (H : Heap) (locs : List Loc) (cells slots mc ms : Nat) (g : JFrame) (rest : List Value) (Qa : State → Outcome → State → Prop) (XC : String → State → State → Prop) (free : Addr → Prop) : Prop :=
  ∀ T : State, T.heap = H → Stand p l e R s m args below meth c T locs cells slots →
    (∃ (v : Option Value) (st₀ t T' : State) (L : List Loc), st₀.heap = H ∧ Stand p l e R s m args below meth c T' (locs ++ L) (cells + mc) (slots + ms) ∧ (∀ q ∈ L, free q.base) ∧ T'.heap = t.heap ∧ T'.vm = t.vm ∧ Qa st₀ (.returned v) t ∧
      Goes p e below T g T' { g with pc := g.pc + 3, stack := v.toList ++ rest }) ∨
    (∃ (q : Addr) (st₀ t T' : State) (L : List Loc) (E : String) (ce : Cell), st₀.heap = H ∧ Stand p l e R s m args below meth c T' (locs ++ L) (cells + mc) (slots + ms) ∧ (∀ z ∈ L, free z.base) ∧ T'.heap = t.heap ∧ T'.vm = t.vm ∧ XC E st₀ t ∧ t.heap[q]? = some ce ∧ ce.vm = .none ∧ s.vm.findClass E = some ce.cls ∧
      Steps p.tables e below (T.setTop g) ((T'.setTop { g with stack := rest }).pushFrame (.throwing q)))
def vx_X {S : Type} (px : S → Prop) (B : String → S → State → Prop) (A : Nat → Prop) : String → State → State → Prop := fun E st t => ∃ u : S, px u ∧ B E u t ∧ va_F A st t
section Runs
variable {p : Program} {l : Launch} {e : Env} {R : Room} {s : State} {m : MethodId} {args : Array Value} {below : List Frame} {meth : Method} {c : Code} {H : Heap} {locs : List Loc} {cells slots : Nat}
variable {y : MethodName} {bytes cc : ByteArray} {maxL nL mc ms n index : Nat} {ret : Option FieldType} {ws : List Cond} {rm : Room} {Pc : Array Value → State → Prop} {Qc : Array Value → State → Outcome → State → Prop} {XC : String → State → State → Prop} {free : Addr → Prop} {Ts : List Cond} {own C : String} {b : Addr} {As rest : List Value} {g : JFrame}
theorem vx_callBack (cb : CallB R s args own index y bytes maxL ret ws rm mc ms n) (hM : vx_Met l y ws rm Pc Qc XC mc ms free) (hbl : FrameBlind Pc) : vx_Back l R p e below s args y 3 8 (PreOf R mc ms Pc) (PostOf Qc mc ms free) (vx_Post XC mc ms free) := by
  obtain ⟨hrc, hrs, hfr, hlo, hws, hcw, -, hini, -⟩ := cb
  exact vx_back (bytes := bytes) (maxL := maxL) (ret := ret) hM hbl hrc hrs hfr hlo hws hcw (fun a' U hW => word_at hW (Or.inl (by first | rfl | simp [Cond.onTables, Cond.keeps, Cond.steady])) hini)
theorem vx_runV (S : CallFix p m c cc nL s args Ts own) (hM : vx_Met l y ws rm Pc Qc XC mc ms free) (cw : CallW R s args own C index y bytes maxL ret ws rm mc ms n) (hp : PreV s H C b Pc As)
    (hg : g.method = m) (hn : As.length = n) (hsize : g.locals.size = nL) (hstack : g.stack = As.reverse ++ .ref b :: rest) (hW : 2 * g.monitorRoom + (rest.map fun v => v.category).sum ≤ 8) (hdg : decode cc g.pc = .ok (.invokevirtual index, 3)) (hf : cells + mc ≤ R.cells ∧ slots + ms ≤ R.slots) :
    vx_Run p l e R s m args below meth c H locs cells slots mc ms g rest (Qc (Value.ref b :: As).toArray) XC free := by
  have hK : vx_Back l R p e below s args y 3 8 (PreOf R mc ms Pc) (PostOf Qc mc ms free) (vx_Post XC mc ms free) := vx_callBack cw.1 hM hp.1
  obtain ⟨⟨-, -, -, -, -, -, hcode, -, hy, hlen, hl⟩, hin, hse⟩ := cw
  obtain ⟨hx, hb, hml, ho, -⟩ := S
  obtain ⟨-, ⟨cellB, hcB, hoB, hclB⟩, hPc⟩ := hp
  intro T hT X
  rcases vx_callV X hx (C := C) (bytes := bytes) (maxL := maxL) (ret := ret) ho hl hin hse hcode hy hK (by rw [hT]; exact hcB) hoB hclB hg (hsize.trans hml.symm) (argsL := As) (rest := rest) (fun sig h => hn.trans (hlen sig h)) hstack hW (by rw [hb]; exact hdg)
    (fun vm₁ hW₁ => ⟨hf.1, hf.2, hPc (T.setVm vm₁) hT hW₁⟩) with ⟨v, vm₁, ⟨U', l2, c2, s2⟩, hW₁, X', ⟨g', mk, t, L, e1, e2, hq, h1, hL, h2, h3⟩, st⟩ | ⟨q, vm₁, ⟨U', l2, c2, s2⟩, hW₁, X', ⟨g', mk, t, L, E, ce, e1, e2, hq, hce, hcv, hcl, h1, hL, h2, h3⟩, st⟩
  · dsimp only [Pt.U, Pt.locs, Pt.cells, Pt.slots] at X' e1 e2 h1 h2 h3 st
    subst h1; subst h2; subst h3
    exact Or.inl ⟨v, (T.setVm vm₁).calling g' mk (Value.ref b :: As).toArray, t, U', L, hT, X', hL, e1, e2, hq, st⟩
  · dsimp only [Pt.U, Pt.locs, Pt.cells, Pt.slots] at X' e1 e2 h1 h2 h3 st hcl
    subst h1; subst h2; subst h3
    exact Or.inr ⟨q, (T.setVm vm₁).calling g' mk (Value.ref b :: As).toArray, t, U', L, E, ce, hT, X', hL, e1, e2, hq, hce, hcv, vx_cls hW₁ hcl, st⟩
theorem vx_runS (S : CallFix p m c cc nL s args Ts own) (hM : vx_Met l y ws rm Pc Qc XC mc ms free) (cw : CallB R s args own index y bytes maxL ret ws rm mc ms n ∧ (Cond.static y).before args s = true) (hp : PreS s H Pc As)
    (hg : g.method = m) (hn : As.length = n) (hsize : g.locals.size = nL) (hstack : g.stack = As.reverse ++ rest) (hW : 2 * g.monitorRoom + (rest.map fun v => v.category).sum ≤ 8) (hdg : decode cc g.pc = .ok (.invokestatic index, 3)) (hf : cells + mc ≤ R.cells ∧ slots + ms ≤ R.slots) :
    vx_Run p l e R s m args below meth c H locs cells slots mc ms g rest (Qc As.toArray) XC free := by
  have hK : vx_Back l R p e below s args y 3 8 (PreOf R mc ms Pc) (PostOf Qc mc ms free) (vx_Post XC mc ms free) := vx_callBack cw.1 hM hp.1
  obtain ⟨⟨-, -, -, -, -, -, hcode, hini, hy, hlen, hl⟩, hstt⟩ := cw
  obtain ⟨hx, hb, hml, ho, -⟩ := S
  intro T hT X
  rcases vx_callS X hx (bytes := bytes) (maxL := maxL) (ret := ret) ho hl hstt hini hcode hy hK hg (hsize.trans hml.symm) (argsL := As) (rest := rest) (fun sig h => hn.trans (hlen sig h)) hstack hW (by rw [hb]; exact hdg)
    (fun vm₁ hW₁ => ⟨hf.1, hf.2, hp.2 (T.setVm vm₁) hT hW₁⟩) with ⟨v, vm₁, ⟨U', l2, c2, s2⟩, hW₁, X', ⟨g', mk, t, L, e1, e2, hq, h1, hL, h2, h3⟩, st⟩ | ⟨q, vm₁, ⟨U', l2, c2, s2⟩, hW₁, X', ⟨g', mk, t, L, E, ce, e1, e2, hq, hce, hcv, hcl, h1, hL, h2, h3⟩, st⟩
  · dsimp only [Pt.U, Pt.locs, Pt.cells, Pt.slots] at X' e1 e2 h1 h2 h3 st
    subst h1; subst h2; subst h3
    exact Or.inl ⟨v, (T.setVm vm₁).calling g' mk As.toArray, t, U', L, hT, X', hL, e1, e2, hq, st⟩
  · dsimp only [Pt.U, Pt.locs, Pt.cells, Pt.slots] at X' e1 e2 h1 h2 h3 st hcl
    subst h1; subst h2; subst h3
    exact Or.inr ⟨q, (T.setVm vm₁).calling g' mk As.toArray, t, U', L, E, ce, hT, X', hL, e1, e2, hq, hce, hcv, vx_cls hW₁ hcl, st⟩
end Runs
section Rows
variable {p : Program} {l : Launch} {e : Env} {R : Room} {s : State} {m : MethodId} {args : Array Value} {below : List Frame} {meth : Method} {c : Code} {H : Heap} {locs : List Loc} {cells slots : Nat} {Q : State → Prop}
variable {mc ms : Nat} {free : Addr → Prop} {A0 A1 : Nat → Prop} {H0 : Heap} {a : Array Value} {pc : Nat} {ls : Array Slot} {st0 rest : List Value}
theorem vx_keep {st₀ t T' : State} {L : List Loc} (h0 : st₀.heap = H) (e1 : T'.heap = t.heap) (hS : va_S A0 H0 H locs) (hA : ∀ q, q < H.size → A1 q → A0 q) (hf : ∀ q, free q → A0 q) (hL : ∀ q ∈ L, free q.base) (hF : va_F A1 st₀ t) :
    H.size ≤ T'.heap.size ∧ (∀ q : Nat, q < H.size → ¬ A1 q → T'.heap[q]? = H[q]?) ∧ va_S A0 H0 T'.heap (locs ++ L) := by
  obtain ⟨hz, hk⟩ := hF
  rw [h0] at hz hk
  exact ⟨by rw [e1]; exact hz, fun q h1 h2 => by rw [e1]; exact hk q h1 h2,
    ⟨Nat.le_trans hS.1 (by rw [e1]; exact hz), fun q h1 h2 => by rw [e1, hk q (Nat.lt_of_lt_of_le h1 hS.1) (fun z => h2 (hA q (Nat.lt_of_lt_of_le h1 hS.1) z))]; exact hS.2.1 q h1 h2, fun q hq => by
      rcases List.mem_append.mp hq with h | h
      · exact hS.2.2 q h
      · exact hf _ (hL q h)⟩⟩
theorem vx_calli {S SX : Type} {post : Int32 → S → Prop} {px : SX → Prop} {B : S → State → Prop} {BX : String → SX → State → Prop} {AX : Nat → Prop} (hr : vx_Run p l e R s m args below meth c H locs cells slots mc ms (F0 m pc ls st0) rest (va_Qi post B A1 a) (vx_X px BX AX) free) (hS : va_S A0 H0 H locs) (hA : ∀ q, q < H.size → A1 q → A0 q) (hf : ∀ q, free q → A0 q) (hAX : ∀ q, q < H.size → AX q → A0 q)
    (kx : ∀ (E : String) (ce : Cell) (q9 : Addr) (u : SX) (t : State) (H1 : Heap) (locs1 : List Loc), t.heap = H1 → s.vm.Alike t.vm → px u → BX E u t → H.size ≤ H1.size → (∀ q : Nat, q < H.size → ¬ AX q → H1[q]? = H[q]?) → va_S A0 H0 H1 locs1 → H1[q9]? = some ce → ce.vm = .none → s.vm.findClass E = some ce.cls → vx_W p l e R s m args below meth c H1 locs1 (cells + mc) (slots + ms) Q (F0 m pc ls rest) q9)
    (kk : ∀ (r : Int32) (u : S) (t : State) (H1 : Heap) (locs1 : List Loc), t.heap = H1 → s.vm.Alike t.vm → post r u → B u t → H.size ≤ H1.size → (∀ q : Nat, q < H.size → ¬ A1 q → H1[q]? = H[q]?) → va_S A0 H0 H1 locs1 → W p l e R s m args below meth c H1 locs1 (cells + mc) (slots + ms) Q (F0 m (pc + 3) ls (.int r :: rest))) : W p l e R s m args below meth c H locs cells slots Q (F0 m pc ls st0) := by
  intro T hT X
  rcases hr T hT X with ⟨v, st₀, t, T', L, h0, X', hL, e1, e2, ⟨⟨r, u, hv, hp, hb⟩, hF⟩, st⟩ | ⟨q, st₀, t, T', L, E, ce, h0, X', hL, e1, e2, ⟨u, hp, hb, hF⟩, hce, hcv, hcl, st⟩
  · cases hv
    obtain ⟨k1, k2, k3⟩ := vx_keep h0 e1 hS hA hf hL hF
    obtain ⟨t2, a1, b1⟩ := kk r u t T'.heap (locs ++ L) e1.symm (by rw [← e2]; exact X'.warmed.alike) hp hb k1 k2 k3 T' rfl X'
    exact ⟨t2, st t2 a1, b1⟩
  · obtain ⟨k1, k2, k3⟩ := vx_keep h0 e1 hS hAX hf hL hF
    obtain ⟨t2, a1, b1⟩ := kx E ce q u t T'.heap (locs ++ L) e1.symm (by rw [← e2]; exact X'.warmed.alike) hp hb k1 k2 k3 (by rw [e1]; exact hce) hcv hcl T' rfl X'
    exact ⟨t2, st.trans a1, b1⟩
theorem vx_calll {S SX : Type} {post : Int64 → S → Prop} {px : SX → Prop} {B : S → State → Prop} {BX : String → SX → State → Prop} {AX : Nat → Prop} (hr : vx_Run p l e R s m args below meth c H locs cells slots mc ms (F0 m pc ls st0) rest (va_Ql post B A1 a) (vx_X px BX AX) free) (hS : va_S A0 H0 H locs) (hA : ∀ q, q < H.size → A1 q → A0 q) (hf : ∀ q, free q → A0 q) (hAX : ∀ q, q < H.size → AX q → A0 q)
    (kx : ∀ (E : String) (ce : Cell) (q9 : Addr) (u : SX) (t : State) (H1 : Heap) (locs1 : List Loc), t.heap = H1 → s.vm.Alike t.vm → px u → BX E u t → H.size ≤ H1.size → (∀ q : Nat, q < H.size → ¬ AX q → H1[q]? = H[q]?) → va_S A0 H0 H1 locs1 → H1[q9]? = some ce → ce.vm = .none → s.vm.findClass E = some ce.cls → vx_W p l e R s m args below meth c H1 locs1 (cells + mc) (slots + ms) Q (F0 m pc ls rest) q9)
    (kk : ∀ (r : Int64) (u : S) (t : State) (H1 : Heap) (locs1 : List Loc), t.heap = H1 → s.vm.Alike t.vm → post r u → B u t → H.size ≤ H1.size → (∀ q : Nat, q < H.size → ¬ A1 q → H1[q]? = H[q]?) → va_S A0 H0 H1 locs1 → W p l e R s m args below meth c H1 locs1 (cells + mc) (slots + ms) Q (F0 m (pc + 3) ls (.long r :: rest))) : W p l e R s m args below meth c H locs cells slots Q (F0 m pc ls st0) := by
  intro T hT X
  rcases hr T hT X with ⟨v, st₀, t, T', L, h0, X', hL, e1, e2, ⟨⟨r, u, hv, hp, hb⟩, hF⟩, st⟩ | ⟨q, st₀, t, T', L, E, ce, h0, X', hL, e1, e2, ⟨u, hp, hb, hF⟩, hce, hcv, hcl, st⟩
  · cases hv
    obtain ⟨k1, k2, k3⟩ := vx_keep h0 e1 hS hA hf hL hF
    obtain ⟨t2, a1, b1⟩ := kk r u t T'.heap (locs ++ L) e1.symm (by rw [← e2]; exact X'.warmed.alike) hp hb k1 k2 k3 T' rfl X'
    exact ⟨t2, st t2 a1, b1⟩
  · obtain ⟨k1, k2, k3⟩ := vx_keep h0 e1 hS hAX hf hL hF
    obtain ⟨t2, a1, b1⟩ := kx E ce q u t T'.heap (locs ++ L) e1.symm (by rw [← e2]; exact X'.warmed.alike) hp hb k1 k2 k3 (by rw [e1]; exact hce) hcv hcl T' rfl X'
    exact ⟨t2, st.trans a1, b1⟩
theorem vx_callf {S SX : Type} {post : UInt32 → S → Prop} {px : SX → Prop} {B : S → State → Prop} {BX : String → SX → State → Prop} {AX : Nat → Prop} (hr : vx_Run p l e R s m args below meth c H locs cells slots mc ms (F0 m pc ls st0) rest (va_Qf post B A1 a) (vx_X px BX AX) free) (hS : va_S A0 H0 H locs) (hA : ∀ q, q < H.size → A1 q → A0 q) (hf : ∀ q, free q → A0 q) (hAX : ∀ q, q < H.size → AX q → A0 q)
    (kx : ∀ (E : String) (ce : Cell) (q9 : Addr) (u : SX) (t : State) (H1 : Heap) (locs1 : List Loc), t.heap = H1 → s.vm.Alike t.vm → px u → BX E u t → H.size ≤ H1.size → (∀ q : Nat, q < H.size → ¬ AX q → H1[q]? = H[q]?) → va_S A0 H0 H1 locs1 → H1[q9]? = some ce → ce.vm = .none → s.vm.findClass E = some ce.cls → vx_W p l e R s m args below meth c H1 locs1 (cells + mc) (slots + ms) Q (F0 m pc ls rest) q9)
    (kk : ∀ (r : UInt32) (u : S) (t : State) (H1 : Heap) (locs1 : List Loc), t.heap = H1 → s.vm.Alike t.vm → post r u → B u t → H.size ≤ H1.size → (∀ q : Nat, q < H.size → ¬ A1 q → H1[q]? = H[q]?) → va_S A0 H0 H1 locs1 → W p l e R s m args below meth c H1 locs1 (cells + mc) (slots + ms) Q (F0 m (pc + 3) ls (.float r :: rest))) : W p l e R s m args below meth c H locs cells slots Q (F0 m pc ls st0) := by
  intro T hT X
  rcases hr T hT X with ⟨v, st₀, t, T', L, h0, X', hL, e1, e2, ⟨⟨r, u, hv, hp, hb⟩, hF⟩, st⟩ | ⟨q, st₀, t, T', L, E, ce, h0, X', hL, e1, e2, ⟨u, hp, hb, hF⟩, hce, hcv, hcl, st⟩
  · cases hv
    obtain ⟨k1, k2, k3⟩ := vx_keep h0 e1 hS hA hf hL hF
    obtain ⟨t2, a1, b1⟩ := kk r u t T'.heap (locs ++ L) e1.symm (by rw [← e2]; exact X'.warmed.alike) hp hb k1 k2 k3 T' rfl X'
    exact ⟨t2, st t2 a1, b1⟩
  · obtain ⟨k1, k2, k3⟩ := vx_keep h0 e1 hS hAX hf hL hF
    obtain ⟨t2, a1, b1⟩ := kx E ce q u t T'.heap (locs ++ L) e1.symm (by rw [← e2]; exact X'.warmed.alike) hp hb k1 k2 k3 (by rw [e1]; exact hce) hcv hcl T' rfl X'
    exact ⟨t2, st.trans a1, b1⟩
theorem vx_calld {S SX : Type} {post : UInt64 → S → Prop} {px : SX → Prop} {B : S → State → Prop} {BX : String → SX → State → Prop} {AX : Nat → Prop} (hr : vx_Run p l e R s m args below meth c H locs cells slots mc ms (F0 m pc ls st0) rest (va_Qd post B A1 a) (vx_X px BX AX) free) (hS : va_S A0 H0 H locs) (hA : ∀ q, q < H.size → A1 q → A0 q) (hf : ∀ q, free q → A0 q) (hAX : ∀ q, q < H.size → AX q → A0 q)
    (kx : ∀ (E : String) (ce : Cell) (q9 : Addr) (u : SX) (t : State) (H1 : Heap) (locs1 : List Loc), t.heap = H1 → s.vm.Alike t.vm → px u → BX E u t → H.size ≤ H1.size → (∀ q : Nat, q < H.size → ¬ AX q → H1[q]? = H[q]?) → va_S A0 H0 H1 locs1 → H1[q9]? = some ce → ce.vm = .none → s.vm.findClass E = some ce.cls → vx_W p l e R s m args below meth c H1 locs1 (cells + mc) (slots + ms) Q (F0 m pc ls rest) q9)
    (kk : ∀ (r : UInt64) (u : S) (t : State) (H1 : Heap) (locs1 : List Loc), t.heap = H1 → s.vm.Alike t.vm → post r u → B u t → H.size ≤ H1.size → (∀ q : Nat, q < H.size → ¬ A1 q → H1[q]? = H[q]?) → va_S A0 H0 H1 locs1 → W p l e R s m args below meth c H1 locs1 (cells + mc) (slots + ms) Q (F0 m (pc + 3) ls (.double r :: rest))) : W p l e R s m args below meth c H locs cells slots Q (F0 m pc ls st0) := by
  intro T hT X
  rcases hr T hT X with ⟨v, st₀, t, T', L, h0, X', hL, e1, e2, ⟨⟨r, u, hv, hp, hb⟩, hF⟩, st⟩ | ⟨q, st₀, t, T', L, E, ce, h0, X', hL, e1, e2, ⟨u, hp, hb, hF⟩, hce, hcv, hcl, st⟩
  · cases hv
    obtain ⟨k1, k2, k3⟩ := vx_keep h0 e1 hS hA hf hL hF
    obtain ⟨t2, a1, b1⟩ := kk r u t T'.heap (locs ++ L) e1.symm (by rw [← e2]; exact X'.warmed.alike) hp hb k1 k2 k3 T' rfl X'
    exact ⟨t2, st t2 a1, b1⟩
  · obtain ⟨k1, k2, k3⟩ := vx_keep h0 e1 hS hAX hf hL hF
    obtain ⟨t2, a1, b1⟩ := kx E ce q u t T'.heap (locs ++ L) e1.symm (by rw [← e2]; exact X'.warmed.alike) hp hb k1 k2 k3 (by rw [e1]; exact hce) hcv hcl T' rfl X'
    exact ⟨t2, st.trans a1, b1⟩
theorem vx_callv {S SX : Type} {post : S → Prop} {px : SX → Prop} {B : S → State → Prop} {BX : String → SX → State → Prop} {AX : Nat → Prop} (hr : vx_Run p l e R s m args below meth c H locs cells slots mc ms (F0 m pc ls st0) rest (va_Qv post B A1 a) (vx_X px BX AX) free) (hS : va_S A0 H0 H locs) (hA : ∀ q, q < H.size → A1 q → A0 q) (hf : ∀ q, free q → A0 q) (hAX : ∀ q, q < H.size → AX q → A0 q)
    (kx : ∀ (E : String) (ce : Cell) (q9 : Addr) (u : SX) (t : State) (H1 : Heap) (locs1 : List Loc), t.heap = H1 → s.vm.Alike t.vm → px u → BX E u t → H.size ≤ H1.size → (∀ q : Nat, q < H.size → ¬ AX q → H1[q]? = H[q]?) → va_S A0 H0 H1 locs1 → H1[q9]? = some ce → ce.vm = .none → s.vm.findClass E = some ce.cls → vx_W p l e R s m args below meth c H1 locs1 (cells + mc) (slots + ms) Q (F0 m pc ls rest) q9)
    (kk : ∀ (u : S) (t : State) (H1 : Heap) (locs1 : List Loc), t.heap = H1 → s.vm.Alike t.vm → post u → B u t → H.size ≤ H1.size → (∀ q : Nat, q < H.size → ¬ A1 q → H1[q]? = H[q]?) → va_S A0 H0 H1 locs1 → W p l e R s m args below meth c H1 locs1 (cells + mc) (slots + ms) Q (F0 m (pc + 3) ls (rest))) : W p l e R s m args below meth c H locs cells slots Q (F0 m pc ls st0) := by
  intro T hT X
  rcases hr T hT X with ⟨v, st₀, t, T', L, h0, X', hL, e1, e2, ⟨⟨u, hv, hp, hb⟩, hF⟩, st⟩ | ⟨q, st₀, t, T', L, E, ce, h0, X', hL, e1, e2, ⟨u, hp, hb, hF⟩, hce, hcv, hcl, st⟩
  · cases hv
    obtain ⟨k1, k2, k3⟩ := vx_keep h0 e1 hS hA hf hL hF
    obtain ⟨t2, a1, b1⟩ := kk u t T'.heap (locs ++ L) e1.symm (by rw [← e2]; exact X'.warmed.alike) hp hb k1 k2 k3 T' rfl X'
    exact ⟨t2, st t2 a1, b1⟩
  · obtain ⟨k1, k2, k3⟩ := vx_keep h0 e1 hS hAX hf hL hF
    obtain ⟨t2, a1, b1⟩ := kx E ce q u t T'.heap (locs ++ L) e1.symm (by rw [← e2]; exact X'.warmed.alike) hp hb k1 k2 k3 (by rw [e1]; exact hce) hcv hcl T' rfl X'
    exact ⟨t2, st.trans a1, b1⟩
/-- caught by the row x of this method's table; the rows ahead don't take it -/
theorem vx_catch {own name : String} {E : String} {ce : Cell} {q : Addr} (hown : s.vm.findClass own = some m.cls) (pre : List ExceptionTableEntry) (x : ExceptionTableEntry) (suf : List ExceptionTableEntry) (hsplit : c.exceptionTable.toList = pre ++ x :: suf)
    (hpass : ∀ z ∈ pre, covers z pc = false ∨ (z.catchType ≠ 0 ∧ ∃ nm : String, (Cond.classLink own z.catchType nm).before args s = true ∧ va_Nc E nm s)) (hx : covers x pc = true) (h0 : x.catchType ≠ 0)
    (hlink : (Cond.classLink own x.catchType name).before args s = true) (hcast : (Cond.castable E name).before args s = true) (hcell : H[q]? = some ce) (hv : ce.vm = .none) (hcl : s.vm.findClass E = some ce.cls)
    (kk : W p l e R s m args below meth c H locs cells slots Q (F0 m x.handlerPc ls [.ref q])) : vx_W p l e R s m args below meth c H locs cells slots Q (F0 m pc ls rest) q := by
  intro T hT X
  have hpl : e.platform.magicAccessors = ({} : Platform).magicAccessors := by rw [X.admits.platform]
  obtain ⟨c3, c4, hc3, hc4, hasg⟩ := Cond.castable_spec hcast
  cases Option.some.inj (hc3.symm.trans hcl)
  obtain ⟨c5, hc5, hcl5⟩ := Cond.classLink_spec hown hlink e.platform hpl
  cases Option.some.inj (hc4.symm.trans hc5)
  obtain ⟨vm', X', st⟩ := X.thenCaughtThrough q (g := F0 m pc ls rest) rfl (Steps.refl _) (by rw [hT]; exact hcell) (by rw [hv]; rfl) (by obtain ⟨k9, h9, -⟩ := Vm.findClass_spec hcl; exact ⟨k9, h9⟩) pre x suf hsplit
    (fun z hz => by
      rcases hpass z hz with h | ⟨hz0, nm, hl1, hn1⟩
      · exact Or.inl h
      · obtain ⟨c6, hc6, hcl6⟩ := Cond.classLink_spec hown hl1 e.platform hpl
        obtain ⟨a8, b8, h1, h2, h3⟩ := hn1
        cases Option.some.inj (h1.symm.trans hcl)
        cases Option.some.inj (h2.symm.trans hc6)
        exact Or.inr ⟨hz0, _, hcl6, h3⟩) hx (Or.inr ⟨h0, c4, hcl5, hasg⟩)
  obtain ⟨t, a1, b1⟩ := kk (T.setVm vm') hT X'
  exact ⟨t, st.trans a1, b1⟩
end Rows
section Ends
variable {p : Program} {l : Launch} {e : Env} {R : Room} {s : State} {m : MethodId} {args : Array Value} {below : List Frame} {meth : Method} {c : Code} {H : Heap} {locs : List Loc} {cells slots : Nat} {Q : State → Prop}
variable {mc ms : Nat} {free : Addr → Prop} {A0 A1 : Nat → Prop} {H0 : Heap} {a : Array Value} {ls : Array Slot} {st0 rest : List Value}
variable {Qc : Array Value → State → Outcome → State → Prop} {XC : String → State → State → Prop}
/-- what a body that may throw owes at its end -/
def vx_MQ (below : List Frame) (Qc : Array Value → State → Outcome → State → Prop) (XC : String → State → State → Prop) (a : Array Value) (s : State) (mc ms : Nat) (free : Addr → Prop) : State → Prop := fun t =>
  ∃ o, t.status = .running ∧ Ended t below o ∧ vx_Q Qc XC mc ms free a s o t
theorem vx_ret {g : JFrame} {mc ms : Nat} (k : W p l e R s m args below meth c H locs cells slots (MQ below Qc args s mc ms free) g) : W p l e R s m args below meth c H locs cells slots (vx_MQ below Qc XC args s mc ms free) g := by
  intro T hT X
  obtain ⟨t, a1, o, b1, b2, b3, b4⟩ := k T hT X
  exact ⟨t, a1, o, b1, b2, Or.inl ⟨b3, b4⟩⟩
/-- not caught here: it goes on to the caller -/
theorem vx_widen {g : JFrame} {q : Addr} {k n : Nat} (h1 : cells ≤ k) (h2 : slots ≤ n) (kk : vx_W p l e R s m args below meth c H locs k n Q g q) : vx_W p l e R s m args below meth c H locs cells slots Q g q := fun T hT X => kk T hT (stand_widen X h1 h2)
theorem vx_out {pc : Nat} {E : String} {ce : Cell} {q : Addr} {mc ms : Nat} (hout : ∀ x ∈ c.exceptionTable.toList, covers x pc = false) (hlocks : meth.locks = false) (hcell : H[q]? = some ce) (hv : ce.vm = .none) (hcl : s.vm.findClass E = some ce.cls)
    (hx : ∀ t : State, t.heap = H → s.vm.Alike t.vm → XC E s t) (hf : ∀ z ∈ locs, free z.base) (hc : cells ≤ mc) (hs : slots ≤ ms) :
    vx_W p l e R s m args below meth c H locs cells slots (vx_MQ below Qc XC args s mc ms free) (F0 m pc ls rest) q := by
  intro T hT X
  obtain ⟨st1, hrun, hend, hW, hsm⟩ := X.leaveThrown q (g := F0 m pc ls rest) rfl rfl rfl hout hlocks
  have hcell9 : (T.setFrames (.throwing q :: below)).heap[q]? = some ce := by
    show T.heap[q]? = some ce
    rw [hT]; exact hcell
  exact ⟨_, st1, .threw q, hrun, hend, Or.inr ⟨q, rfl, E, ce, locs, hx _ hT hW.alike, hcell9, hv, hcl, hW, hsm.mono hc hs, hf⟩⟩
theorem vx_frame {U : State} {k n : Nat} (h : s.sameButNew ({ U with vm := s.vm } : State) locs k n) : s.heap.size ≤ U.heap.size ∧ ∀ q : Nat, q < s.heap.size → (∀ z ∈ locs, z.base ≠ q) → U.heap[q]? = s.heap[q]? := by
  obtain ⟨-, h2, -, -, -, h6⟩ := h
  refine ⟨h2, fun q hq hz => ?_⟩
  obtain ⟨c9, e1, e2, e3, e4⟩ := h6 q _ (Array.getElem?_eq_getElem hq)
  have hs : c9.slots = (s.heap[q]).slots := Array.ext_getElem? fun i => e4 i fun hm => hz _ hm rfl
  have h9 : c9 = s.heap[q] := by
    rw [hs] at e2
    exact e2
  have e5 : U.heap[q]? = some c9 := e1
  rw [e5, h9, Array.getElem?_eq_getElem hq]
/-- the words of a throw but the four that speak of the heap -/
def vx_no (w : Cond) : Bool := decide (w ≠ .isRef (.static Bundle.tN "UNASSIGNED_STACK" Bundle.steD)) && decide (w ≠ .isRef (.static Bundle.tN "SUPPRESSED_SENTINEL" Bundle.listD)) && decide (w ≠ .laysStatic Bundle.tN "UNASSIGNED_STACK" Bundle.steD) && decide (w ≠ .laysStatic Bundle.tN "SUPPRESSED_SENTINEL" Bundle.listD)
def vx_at0 (own : String) (ic : Nat) (X : String) (names : List String) : List Cond := (Bundle.ownAtoms0 own ic X names).filter vx_no
def vx_atS (own : String) (ic : Nat) (X : String) (names : List String) : List Cond := (Bundle.ownAtoms own ic X names).filter vx_no
/-- a word that the tables alone decide, or a good one -/
def vx_ot (w : Cond) : Bool := w.onTables || goodWord w
theorem vx_ot_at {args a' : Array Value} {s U : State} {w : Cond} (hW : s.WarmedH U.vm) (hvm : s.vm = U.vm) (hg : vx_ot w = true) (h : w.before args s = true) : w.before a' U = true := by
  simp only [vx_ot, Bool.or_eq_true] at hg
  rcases hg with hg | hg
  · exact va_tabs hg hvm h
  · exact word_at hW (good_of_word hg) h
/-- a list's words: the good ones out of the method's own list, the others by premises of their own -/
theorem vx_hat {args : Array Value} {s : State} {L B : List Cond} (h1 : ∀ w ∈ L.filter goodWord, w.before args s = true) (h2 : ∀ w ∈ L.filter (fun w => !goodWord w), w ∈ B) (h3 : ∀ w ∈ B, w.before args s = true) : ∀ w ∈ L, w.before args s = true := by
  intro w hw
  by_cases g : goodWord w = true
  · exact h1 w (List.mem_filter.mpr ⟨hw, g⟩)
  · refine h3 w (h2 w (List.mem_filter.mpr ⟨hw, ?_⟩))
    show (!goodWord w) = true
    cases hgw : goodWord w
    · rfl
    · exact absurd hgw g
theorem vx_c {args : Array Value} {s : State} {w : Cond} {B : List Cond} (h : w.before args s = true) (t : ∀ w ∈ B, w.before args s = true) : ∀ w' ∈ w :: B, w'.before args s = true := fun w' h' => (List.mem_cons.mp h').elim (fun e => by rw [e]; exact h) (t w')
theorem vx_n {args : Array Value} {s : State} : ∀ w ∈ ([] : List Cond), w.before args s = true := fun _ h => nomatch h
theorem vx_own {args : Array Value} {s : State} {L : List Cond} (h1 : ∀ w ∈ L.filter vx_no, w.before args s = true)
    (hU : (Cond.isRef (.static Bundle.tN "UNASSIGNED_STACK" Bundle.steD)).before args s = true) (hN : (Cond.isRef (.static Bundle.tN "SUPPRESSED_SENTINEL" Bundle.listD)).before args s = true)
    (lU : (Cond.laysStatic Bundle.tN "UNASSIGNED_STACK" Bundle.steD).before args s = true) (lN : (Cond.laysStatic Bundle.tN "SUPPRESSED_SENTINEL" Bundle.listD).before args s = true) : ∀ w ∈ L, w.before args s = true := by
  intro w hw
  by_cases e1 : w = .isRef (.static Bundle.tN "UNASSIGNED_STACK" Bundle.steD)
  · rw [e1]; exact hU
  · by_cases e2 : w = .isRef (.static Bundle.tN "SUPPRESSED_SENTINEL" Bundle.listD)
    · rw [e2]; exact hN
    · by_cases e3 : w = .laysStatic Bundle.tN "UNASSIGNED_STACK" Bundle.steD
      · rw [e3]; exact lU
      · by_cases e4 : w = .laysStatic Bundle.tN "SUPPRESSED_SENTINEL" Bundle.listD
        · rw [e4]; exact lN
        · exact h1 w (List.mem_filter.mpr ⟨hw, by unfold vx_no; rw [decide_eq_true e1, decide_eq_true e2, decide_eq_true e3, decide_eq_true e4]; rfl⟩)
/-- where a static field lies, its class's statics cell in H -/
def vx_L (C n d : String) (A : Nat → Prop) (U : State) (H : Heap) : Prop := ∃ (c : ClassId) (k : Class) (i : Nat) (f : Field) (a : Nat) (cell : Cell), U.vm.findClass C = some c ∧ U.fieldFound? C n d = some (c, k, i, f) ∧ f.isStatic = true ∧ k.statics = some a ∧ H[a]? = some cell ∧ cell.vm.isStatics = true ∧ cell.cls = c ∧ f.slot < cell.slots.size ∧ k.staticTypes[f.slot]? = some f.type ∧ ¬ A a
theorem vx_L.moved {C n d : String} {A : Nat → Prop} {u U : State} {H : Heap} (hvm : u.vm.Alike U.vm) (h : vx_L C n d A u H) : vx_L C n d A U H := by
  obtain ⟨c, k, i, f, a, cell, h1, h2, h3, h4, h5, h6, h7, h8, h9, h10⟩ := h
  obtain ⟨k', hi', he⟩ := State.fieldFound?_setVm hvm h2
  exact ⟨c, k', i, f, a, cell, by rw [hvm.findClass]; exact h1, hi', h3, by rw [he]; exact h4, h5, h6, h7, h8, by rw [he]; exact h9, h10⟩
theorem vx_L.kept {C n d : String} {A : Nat → Prop} {U : State} {H H1 : Heap} (h : vx_L C n d A U H) (hq : ∀ a : Nat, a < H.size → ¬ A a → H1[a]? = H[a]?) : vx_L C n d A U H1 := by
  obtain ⟨c, k, i, f, a, cell, h1, h2, h3, h4, h5, h6, h7, h8, h9, h10⟩ := h
  exact ⟨c, k, i, f, a, cell, h1, h2, h3, h4, by rw [hq a (Array.getElem?_eq_some_iff.mp h5).1 h10]; exact h5, h6, h7, h8, h9, h10⟩
theorem vx_L.narrow {C n d : String} {A B : Nat → Prop} {U : State} {H : Heap} (h : vx_L C n d A U H) (hAB : ∀ q, B q → A q) : vx_L C n d B U H := by
  obtain ⟨c, k, i, f, a, cell, h1, h2, h3, h4, h5, h6, h7, h8, h9, h10⟩ := h
  exact ⟨c, k, i, f, a, cell, h1, h2, h3, h4, h5, h6, h7, h8, h9, fun z => h10 (hAB _ z)⟩
theorem vx_L.word {C n d : String} {A : Nat → Prop} {s : State} {args : Array Value} (h : vx_L C n d A s s.heap) : (Cond.laysStatic C n d).before args s = true := by
  obtain ⟨c, k, i, f, a, cell, h1, h2, h3, h4, h5, h6, h7, h8, h9, -⟩ := h
  show (Cond.laysStatic C n d).holds args s none s [] = true
  exact Cond.laysStatic_of h1 h2 h3 h4 h5 h6 h7 h8 h9
/-- .. and what it holds: null or some reference -/
def vx_Zq (C n d : String) (A : Nat → Prop) (U : State) (H : Heap) : Prop := va_Zq C n d A U H ∧ vx_L C n d A U H
theorem vx_Zq.moved {C n d : String} {A : Nat → Prop} {u U : State} {H : Heap} (hvm : u.vm.Alike U.vm) (h : vx_Zq C n d A u H) : vx_Zq C n d A U H := ⟨va_Zq.moved hvm h.1, vx_L.moved hvm h.2⟩
theorem vx_Zq.kept {C n d : String} {A : Nat → Prop} {U : State} {H H1 : Heap} (h : vx_Zq C n d A U H) (hq : ∀ a : Nat, a < H.size → ¬ A a → H1[a]? = H[a]?) : vx_Zq C n d A U H1 := ⟨va_Zq.kept h.1 hq, vx_L.kept h.2 hq⟩
theorem vx_Zq.narrow {C n d : String} {A B : Nat → Prop} {U : State} {H : Heap} (h : vx_Zq C n d A U H) (hAB : ∀ q, B q → A q) : vx_Zq C n d B U H := ⟨va_Zq.narrow h.1 hAB, vx_L.narrow h.2 hAB⟩
theorem vx_Zqof {args : Array Value} {s : State} {C n d : String} {A : Nat → Prop} (hl : (Cond.laysStatic C n d).before args s = true) (hini : (Cond.initialized C).before args s = true) (h : (Cond.isRef (.static C n d)).before args s = true) (hA : ∀ a : Nat, a < s.heap.size → ¬ A a) : vx_Zq C n d A s s.heap := by
  refine ⟨va_Zqof hl hini h hA, ?_⟩
  obtain ⟨c, k, i, f, a, cell, h1, h2, h3, h4, h5, h6, h7, h8, h9⟩ := Cond.laysStatic_spec hl
  exact ⟨c, k, i, f, a, cell, h1, h2, h3, h4, h5, h6, h7, h8, h9, hA a (Array.getElem?_eq_some_iff.mp h5).1⟩
theorem vx_isRef {C n d : String} {v : Value} {A : Nat → Prop} {s : State} {args : Array Value} (h : va_Z C n d v A s s.heap) (hv : v.isRef = true) : (Cond.isRef (.static C n d)).before args s = true := by
  obtain ⟨cf, kf, fi, f, a, cell, h1, h2, h3, h4, h5, h6, h7, -⟩ := h
  have he : (Term.static C n d).eval args s none [] s = some v := by
    simp [Term.eval, State.fieldNamed?, h1, h2, h4, h5, h6, h7]
  simp only [Cond.before, Cond.holds, Cond.value, he]
  cases v <;> simp_all [Value.isRef]
theorem vx_isRefq {C n d : String} {A : Nat → Prop} {s : State} {args : Array Value} (h : va_Zq C n d A s s.heap) : (Cond.isRef (.static C n d)).before args s = true := by
  rcases h with h | ⟨t, h⟩
  · exact vx_isRef h rfl
  · exact vx_isRef h rfl
/-- the same frame, seen from here: as if the method were called anew in this heap -/
theorem vx_rebase {T : State} (X : Stand p l e R s m args below meth c T locs cells slots) {R' : Room} (hf : R'.frames ≤ R.frames) (hl : R'.locals ≤ R.locals) (hc : cells + R'.cells ≤ R.cells) (hs : slots + R'.slots ≤ R.slots) :
    Stand p l e R' ((T.setVm s.vm).setFrames (.invoking m args :: below)) m args below meth c T [] 0 0 := by
  have htop : (T.setVm s.vm).topJava?.isSome := X.here.top
  have hF : ((T.setVm s.vm).setFrames (.invoking m args :: below)).frames = .invoking m args :: below := State.frames_setFrames _ (State.cur_lt_of_top htop)
  obtain ⟨g₀, hg0⟩ := Option.isSome_iff_exists.mp htop
  obtain ⟨r, hr⟩ := State.topJava?_eq_some.mp hg0
  have hl9 : e.platform.stackLimits (T.setVm s.vm).me = e.platform.stackLimits s.me := X.limits
  have hb9 : (T.setVm s.vm).me.stackBytes = s.me.stackBytes := X.bytes
  refine ⟨X.admits, X.cas, X.clock, hF, ?_, X.hears, X.method, X.code, X.here, X.tail, X.warmed, ?_, ?_, ?_⟩
  · have h := X.room
    have hU : ((T.setVm s.vm).setFrames (.invoking m args :: below)).localsInUse = s.localsInUse := by
      rw [State.localsInUse_invoking hF (meth := meth) (c := c) X.method X.code, State.localsInUse_invoking X.frames X.method X.code]
    simp only [State.hasRoom, Bool.and_eq_true, decide_eq_true_eq] at h ⊢
    obtain ⟨⟨⟨⟨h1, h2, h3, h4, h5, h6⟩, h7⟩, h8⟩, h9⟩ := h
    rw [X.frames, List.length_cons] at h2 h3
    have q1 := X.heapSize
    have q2 := X.used
    simp only [hF, hU, List.length_cons, State.stackLimits_setFrames, State.stackBytes_setFrames, hl9, hb9]
    refine ⟨⟨⟨⟨by omega, by omega, by omega, by omega, by omega, h6⟩, ?_⟩, ?_⟩, X.book⟩
    · show T.heap.size + R'.cells ≤ e.platform.maxCells
      omega
    · show T.slotsUsed + R'.slots ≤ e.platform.maxSlots
      omega
  · rw [State.stackLimits_setFrames]; rfl
  · rw [State.stackBytes_setFrames]; rfl
  · refine ⟨?_, Nat.le_refl _, Nat.le_refl _, ?_, ?_, fun a c9 h9 => ⟨c9, h9, rfl, rfl, fun _ _ => rfl⟩⟩
    · obtain ⟨t, ht, -⟩ := State.frames_cons hr
      show T.setVm s.vm = { ((T.setVm s.vm).setFrames (.invoking m args :: below)).setFrames (T.setVm s.vm).frames with heap := T.heap, slotsUsed := T.slotsUsed }
      rw [State.setFrames_setFrames, State.setFrames_self ht]
      rfl
    · show T.slotsUsed = T.slotsUsed + ((T.heap.toList.drop T.heap.size).map (·.slots.size)).sum
      rw [List.drop_eq_nil_of_le (Nat.le_of_eq Array.length_toList)]
      rfl
    · show ((T.heap.toList.drop T.heap.size).map (·.slots.size)).sum ≤ 0
      rw [List.drop_eq_nil_of_le (Nat.le_of_eq Array.length_toList)]
      exact Nat.le_refl _
/-- 'throw new E()': new; dup; invokespecial; athrow -/
theorem vx_throw0 {cc : ByteArray} {pc : Nat} (hexec : p.tables.exec = Jvm.exec) (hb : c.code = cc) (hl : l.stackTraces = false) {own cls : String} {names : List String} {ik ic mc ms : Nat} {A : Nat → Prop}
    (hown : s.vm.findClass own = some m.cls) (hcls : Bundle.fit cls = true) (hnames : ∀ n ∈ names, Bundle.fit n = true)
    (hk : (Cond.classLink own ik cls).before args s = true) (hini : (Cond.initialized cls).before args s = true) (hat : ∀ w ∈ vx_at0 own ic cls names, w.before args s = true)
    (hgood : ∀ w ∈ Cond.classLink own ik cls :: Cond.initialized cls :: vx_at0 own ic cls names, vx_ot w = true)
    (hU : vx_Zq Bundle.tN "UNASSIGNED_STACK" Bundle.steD A s s.heap) (hN : vx_Zq Bundle.tN "SUPPRESSED_SENTINEL" Bundle.listD A s s.heap) (hS : va_S A s.heap H locs) (hsize : ls.size = c.maxLocals)
    (d0 : decode cc pc = .ok (.new ik, 3)) (d3 : decode cc (pc + 3) = .ok (.dup, 1)) (d4 : decode cc (pc + 4) = .ok (.invokespecial ic, 3)) (d7 : decode cc (pc + 7) = .ok (.athrow, 1))
    (hout : ∀ x ∈ c.exceptionTable.toList, covers x (pc + 7) = false)
    (hRframes : names.length + 3 < R.frames) (hRlocals : (rest.map fun v => v.category).sum + (13 * (names.length + 1) + 42) ≤ R.locals) (hRcells : cells + 1 ≤ R.cells) (hRslots : slots + 6 ≤ R.slots) (hlocks : meth.locks = false)
    (hx : ∀ t : State, s.vm.Alike t.vm → H.size ≤ t.heap.size → (∀ q : Nat, q < H.size → t.heap[q]? = H[q]?) → XC cls s t)
    (hf : ∀ z ∈ locs, free z.base) (hc : cells + 1 ≤ mc) (hs : slots + 6 ≤ ms) :
    W p l e R s m args below meth c H locs cells slots (vx_MQ below Qc XC args s mc ms free) (F0 m pc ls rest) := by
  intro T hT X
  have htr : e.platform.stackTraces = false := (show e.platform.stackTraces = l.stackTraces by rw [X.admits.platform]).trans hl
  have Y := vx_rebase X (R' := { frames := R.frames, locals := R.locals, cells := 1, slots := 6 }) (Nat.le_refl _) (Nat.le_refl _) hRcells hRslots
  obtain ⟨s', hA⟩ : ∃ z, z = (T.setVm s.vm).setFrames (.invoking m args :: below) := ⟨_, rfl⟩
  rw [← hA] at Y
  have hvm : s'.vm = s.vm := by rw [hA]; rfl
  have hhp : s'.heap = H := by rw [hA]; exact hT
  have hW0 : s.WarmedH s'.vm := by rw [hvm]; exact State.WarmedH.refl s
  have hat' : ∀ w ∈ vx_at0 own ic cls names, w.before args s' = true := fun w hw => vx_ot_at hW0 hvm.symm (hgood w (List.mem_cons_of_mem _ (List.mem_cons_of_mem _ hw))) (hat w hw)
  have hk' : (Cond.classLink own ik cls).before args s' = true := vx_ot_at hW0 hvm.symm (hgood _ List.mem_cons_self) hk
  have hini' : (Cond.initialized cls).before args s' = true := vx_ot_at hW0 hvm.symm (hgood _ (List.mem_cons_of_mem _ List.mem_cons_self)) hini
  have hU' : vx_Zq Bundle.tN "UNASSIGNED_STACK" Bundle.steD A s' s'.heap := by rw [hhp]; exact vx_Zq.moved hW0.alike (hU.kept hS.2.1)
  have hN' : vx_Zq Bundle.tN "SUPPRESSED_SENTINEL" Bundle.listD A s' s'.heap := by rw [hhp]; exact vx_Zq.moved hW0.alike (hN.kept hS.2.1)
  have h : ∀ w ∈ Bundle.ownAtoms0 own ic cls names, w.before args s' = true := vx_own hat' (vx_isRefq hU'.1) (vx_isRefq hN'.1) hU'.2.word hN'.2.word
  have hown' : s'.vm.findClass own = some m.cls := by rw [hvm]; exact hown
  have hins : (Cond.instantiable cls 6).before args s' = true := h _ (by simp [Bundle.ownAtoms0])
  obtain ⟨vm₁, cX, kX, hfX, hkX, -, -, X₁, st1⟩ := Y.newCold hexec (own := own) (C := cls) (index := ik) (n := 6) hown' hk' hins hini'
    (g := F0 m pc ls rest) rfl (by rw [hb]; exact d0) (Nat.le_refl _) (Nat.le_refl _)
  generalize hT1 : (T.setVm vm₁).pushCell { cls := cX, slots := kX.instanceTypes.map defaultValue, vm := .none } = T1 at X₁ st1
  have hcat : (Value.ref T.heap.size).category = 1 := rfl
  have hcellA : T1.heap[T.heap.size]? = some (freshCell cX kX) := by rw [← hT1]; exact State.heap_pushCell_size _ _
  have d3' : decode c.code (pc + 3) = .ok (.dup, 1) := by rw [hb]; exact d3
  obtain ⟨U, hsteps, hrun, hend, hW, hsame, ce, hce, hO⟩ := X₁.ctorThrow0 hexec htr (own := own) (cls := cls) (names := names) (ic := ic) hown' hcls hnames h (fun x hx => nomatch hx) hfX hkX hcellA (by rw [hhp, hT]; exact Nat.le_refl _)
    (g := { method := m, pc := pc + 4, locals := ls, stack := .ref T.heap.size :: .ref T.heap.size :: rest, locked := none }) rfl hsize rfl rfl (rest := rest) rfl
    (by rw [hb]; exact d4) (by rw [hb]; exact d7) hout hRframes (by simp only [List.map_cons, List.sum_cons, hcat]; omega) hlocks
  obtain ⟨f1, f2⟩ := vx_frame hsame
  rw [hhp] at f1 f2
  have hWs : s.WarmedH U.vm := State.WarmedH.trans hW0 hW
  have hcl : s.vm.findClass cls = some ce.cls := by
    have h9 := hO.cls
    rw [hvm] at h9
    exact h9
  have hall : s.sameButNew ({ U with vm := s.vm } : State) locs mc ms := by
    subst hA
    obtain ⟨e1, e2⟩ := hsame
    rw [State.setFrames_setFrames] at e1
    have h2 : (T.setVm s.vm).sameButNew ({ U with vm := s.vm } : State) [] (0 + 1) (0 + 6) := ⟨e1, e2⟩
    have h3 := X.same.trans h2
    rw [List.append_nil] at h3
    exact h3.mono hc hs
  refine ⟨U, ?_, .threw T.heap.size, hrun, hend, Or.inr ⟨T.heap.size, rfl, cls, ce, locs, hx U hWs.alike f1 (fun q hq => f2 q hq (fun z hz => nomatch hz)), hce, hO.vm, hcl, hWs, hall, hf⟩⟩
  refine st1 _ ?_
  show Steps p.tables e below (T1.setTop { method := m, pc := pc + 3, locals := ls, stack := .ref T.heap.size :: rest, locked := none }) _
  jvm_step X₁.here [X₁.here.top, hexec, d3', Value.category]
  exact hsteps
/-- 'throw new E("text")': new; dup; ldc; invokespecial; athrow -/
theorem vx_throwS {cc : ByteArray} {pc : Nat} (hexec : p.tables.exec = Jvm.exec) (hb : c.code = cc) (hl : l.stackTraces = false) {own cls text : String} {names : List String} {ik is ic mc ms sa : Nat} {A : Nat → Prop}
    (hown : s.vm.findClass own = some m.cls) (hcls : Bundle.fit cls = true) (hnames : ∀ n ∈ names, Bundle.fit n = true)
    (hk : (Cond.classLink own ik cls).before args s = true) (hini : (Cond.initialized cls).before args s = true) (hstr : vk_R own is text sa s) (hat : ∀ w ∈ vx_atS own ic cls names, w.before args s = true)
    (hgood : ∀ w ∈ Cond.classLink own ik cls :: Cond.initialized cls :: vx_atS own ic cls names, vx_ot w = true)
    (hU : vx_Zq Bundle.tN "UNASSIGNED_STACK" Bundle.steD A s s.heap) (hN : vx_Zq Bundle.tN "SUPPRESSED_SENTINEL" Bundle.listD A s s.heap) (hS : va_S A s.heap H locs) (hsize : ls.size = c.maxLocals)
    (d0 : decode cc pc = .ok (.new ik, 3)) (d3 : decode cc (pc + 3) = .ok (.dup, 1)) (d4 : decode cc (pc + 4) = .ok (.ldc is, 2)) (d6 : decode cc (pc + 6) = .ok (.invokespecial ic, 3)) (d9 : decode cc (pc + 9) = .ok (.athrow, 1))
    (hout : ∀ x ∈ c.exceptionTable.toList, covers x (pc + 9) = false)
    (hRframes : names.length + 3 < R.frames) (hRlocals : (rest.map fun v => v.category).sum + (13 * (names.length + 1) + 43) ≤ R.locals) (hRcells : cells + 1 ≤ R.cells) (hRslots : slots + 6 ≤ R.slots) (hlocks : meth.locks = false)
    (hx : ∀ t : State, s.vm.Alike t.vm → H.size ≤ t.heap.size → (∀ q : Nat, q < H.size → t.heap[q]? = H[q]?) → XC cls s t)
    (hf : ∀ z ∈ locs, free z.base) (hc : cells + 1 ≤ mc) (hs : slots + 6 ≤ ms) :
    W p l e R s m args below meth c H locs cells slots (vx_MQ below Qc XC args s mc ms free) (F0 m pc ls rest) := by
  intro T hT X
  have htr : e.platform.stackTraces = false := (show e.platform.stackTraces = l.stackTraces by rw [X.admits.platform]).trans hl
  have Y := vx_rebase X (R' := { frames := R.frames, locals := R.locals, cells := 1, slots := 6 }) (Nat.le_refl _) (Nat.le_refl _) hRcells hRslots
  obtain ⟨s', hA⟩ : ∃ z, z = (T.setVm s.vm).setFrames (.invoking m args :: below) := ⟨_, rfl⟩
  rw [← hA] at Y
  have hvm : s'.vm = s.vm := by rw [hA]; rfl
  have hhp : s'.heap = H := by rw [hA]; exact hT
  have hW0 : s.WarmedH s'.vm := by rw [hvm]; exact State.WarmedH.refl s
  have hat' : ∀ w ∈ vx_atS own ic cls names, w.before args s' = true := fun w hw => vx_ot_at hW0 hvm.symm (hgood w (List.mem_cons_of_mem _ (List.mem_cons_of_mem _ hw))) (hat w hw)
  have hk' : (Cond.classLink own ik cls).before args s' = true := vx_ot_at hW0 hvm.symm (hgood _ List.mem_cons_self) hk
  have hini' : (Cond.initialized cls).before args s' = true := vx_ot_at hW0 hvm.symm (hgood _ (List.mem_cons_of_mem _ List.mem_cons_self)) hini
  have hU' : vx_Zq Bundle.tN "UNASSIGNED_STACK" Bundle.steD A s' s'.heap := by rw [hhp]; exact vx_Zq.moved hW0.alike (hU.kept hS.2.1)
  have hN' : vx_Zq Bundle.tN "SUPPRESSED_SENTINEL" Bundle.listD A s' s'.heap := by rw [hhp]; exact vx_Zq.moved hW0.alike (hN.kept hS.2.1)
  have h : ∀ w ∈ Bundle.ownAtoms own ic cls names, w.before args s' = true := vx_own hat' (vx_isRefq hU'.1) (vx_isRefq hN'.1) hU'.2.word hN'.2.word
  have hown' : s'.vm.findClass own = some m.cls := by rw [hvm]; exact hown
  have hins : (Cond.instantiable cls 6).before args s' = true := h _ (by simp [Bundle.ownAtoms])
  obtain ⟨vm₁, cX, kX, hfX, hkX, -, -, X₁, st1⟩ := Y.newCold hexec (own := own) (C := cls) (index := ik) (n := 6) hown' hk' hins hini'
    (g := F0 m pc ls rest) rfl (by rw [hb]; exact d0) (Nat.le_refl _) (Nat.le_refl _)
  generalize hT1 : (T.setVm vm₁).pushCell { cls := cX, slots := kX.instanceTypes.map defaultValue, vm := .none } = T1 at X₁ st1
  have hcat : (Value.ref T.heap.size).category = 1 := rfl
  have hcellA : T1.heap[T.heap.size]? = some (freshCell cX kX) := by rw [← hT1]; exact State.heap_pushCell_size _ _
  have d3' : decode c.code (pc + 3) = .ok (.dup, 1) := by rw [hb]; exact d3
  have d4' : decode c.code (pc + 4) = .ok (.ldc is, 2) := by rw [hb]; exact d4
  have hstr' : vk_R own is text sa s' := vk_R.warm hW0 hstr
  obtain ⟨U, hsteps, hrun, hend, hW, hsame, ce, hce, hO⟩ := X₁.ctorThrowS hexec htr (own := own) (cls := cls) (names := names) (ic := ic) hown' hcls hnames h (fun x hx => nomatch hx) hfX hkX hcellA (by rw [hhp, hT]; exact Nat.le_refl _) (msg := .ref sa) rfl
    (g := { method := m, pc := pc + 6, locals := ls, stack := .ref sa :: .ref T.heap.size :: .ref T.heap.size :: rest, locked := none }) rfl hsize rfl rfl (rest := rest) rfl
    (by rw [hb]; exact d6) (by rw [hb]; exact d9) hout hRframes (by simp only [List.map_cons, List.sum_cons, hcat]; omega) hlocks
  obtain ⟨f1, f2⟩ := vx_frame hsame
  rw [hhp] at f1 f2
  have hWs : s.WarmedH U.vm := State.WarmedH.trans hW0 hW
  have hcl : s.vm.findClass cls = some ce.cls := by
    have h9 := hO.cls
    rw [hvm] at h9
    exact h9
  have hall : s.sameButNew ({ U with vm := s.vm } : State) locs mc ms := by
    subst hA
    obtain ⟨e1, e2⟩ := hsame
    rw [State.setFrames_setFrames] at e1
    have h2 : (T.setVm s.vm).sameButNew ({ U with vm := s.vm } : State) [] (0 + 1) (0 + 6) := ⟨e1, e2⟩
    have h3 := X.same.trans h2
    rw [List.append_nil] at h3
    exact h3.mono hc hs
  refine ⟨U, ?_, .threw T.heap.size, hrun, hend, Or.inr ⟨T.heap.size, rfl, cls, ce, locs, hx U hWs.alike f1 (fun q hq => f2 q hq (fun z hz => nomatch hz)), hce, hO.vm, hcl, hWs, hall, hf⟩⟩
  refine st1 _ ?_
  show Steps p.tables e below (T1.setTop { method := m, pc := pc + 3, locals := ls, stack := .ref T.heap.size :: rest, locked := none }) _
  jvm_step X₁.here [X₁.here.top, hexec, d3', Value.category]
  exact X₁.ldcString hexec (own := own) (text := text) (index := is) (a := sa) hown' hstr'.1 hstr'.2
    (g := { method := m, pc := pc + 4, locals := ls, stack := .ref T.heap.size :: .ref T.heap.size :: rest, locked := none }) rfl d4' _ hsteps
/-- 'throw new E("text")', the text by a wide index -/
theorem vx_throwSW {cc : ByteArray} {pc : Nat} (hexec : p.tables.exec = Jvm.exec) (hb : c.code = cc) (hl : l.stackTraces = false) {own cls text : String} {names : List String} {ik is ic mc ms sa : Nat} {A : Nat → Prop}
    (hown : s.vm.findClass own = some m.cls) (hcls : Bundle.fit cls = true) (hnames : ∀ n ∈ names, Bundle.fit n = true)
    (hk : (Cond.classLink own ik cls).before args s = true) (hini : (Cond.initialized cls).before args s = true) (hstr : vk_R own is text sa s) (hat : ∀ w ∈ vx_atS own ic cls names, w.before args s = true)
    (hgood : ∀ w ∈ Cond.classLink own ik cls :: Cond.initialized cls :: vx_atS own ic cls names, vx_ot w = true)
    (hU : vx_Zq Bundle.tN "UNASSIGNED_STACK" Bundle.steD A s s.heap) (hN : vx_Zq Bundle.tN "SUPPRESSED_SENTINEL" Bundle.listD A s s.heap) (hS : va_S A s.heap H locs) (hsize : ls.size = c.maxLocals)
    (d0 : decode cc pc = .ok (.new ik, 3)) (d3 : decode cc (pc + 3) = .ok (.dup, 1)) (d4 : decode cc (pc + 4) = .ok (.ldc_w is, 3)) (d7 : decode cc (pc + 7) = .ok (.invokespecial ic, 3)) (d10 : decode cc (pc + 10) = .ok (.athrow, 1))
    (hout : ∀ x ∈ c.exceptionTable.toList, covers x (pc + 10) = false)
    (hRframes : names.length + 3 < R.frames) (hRlocals : (rest.map fun v => v.category).sum + (13 * (names.length + 1) + 43) ≤ R.locals) (hRcells : cells + 1 ≤ R.cells) (hRslots : slots + 6 ≤ R.slots) (hlocks : meth.locks = false)
    (hx : ∀ t : State, s.vm.Alike t.vm → H.size ≤ t.heap.size → (∀ q : Nat, q < H.size → t.heap[q]? = H[q]?) → XC cls s t)
    (hf : ∀ z ∈ locs, free z.base) (hc : cells + 1 ≤ mc) (hs : slots + 6 ≤ ms) :
    W p l e R s m args below meth c H locs cells slots (vx_MQ below Qc XC args s mc ms free) (F0 m pc ls rest) := by
  intro T hT X
  have htr : e.platform.stackTraces = false := (show e.platform.stackTraces = l.stackTraces by rw [X.admits.platform]).trans hl
  have Y := vx_rebase X (R' := { frames := R.frames, locals := R.locals, cells := 1, slots := 6 }) (Nat.le_refl _) (Nat.le_refl _) hRcells hRslots
  obtain ⟨s', hA⟩ : ∃ z, z = (T.setVm s.vm).setFrames (.invoking m args :: below) := ⟨_, rfl⟩
  rw [← hA] at Y
  have hvm : s'.vm = s.vm := by rw [hA]; rfl
  have hhp : s'.heap = H := by rw [hA]; exact hT
  have hW0 : s.WarmedH s'.vm := by rw [hvm]; exact State.WarmedH.refl s
  have hat' : ∀ w ∈ vx_atS own ic cls names, w.before args s' = true := fun w hw => vx_ot_at hW0 hvm.symm (hgood w (List.mem_cons_of_mem _ (List.mem_cons_of_mem _ hw))) (hat w hw)
  have hk' : (Cond.classLink own ik cls).before args s' = true := vx_ot_at hW0 hvm.symm (hgood _ List.mem_cons_self) hk
  have hini' : (Cond.initialized cls).before args s' = true := vx_ot_at hW0 hvm.symm (hgood _ (List.mem_cons_of_mem _ List.mem_cons_self)) hini
  have hU' : vx_Zq Bundle.tN "UNASSIGNED_STACK" Bundle.steD A s' s'.heap := by rw [hhp]; exact vx_Zq.moved hW0.alike (hU.kept hS.2.1)
  have hN' : vx_Zq Bundle.tN "SUPPRESSED_SENTINEL" Bundle.listD A s' s'.heap := by rw [hhp]; exact vx_Zq.moved hW0.alike (hN.kept hS.2.1)
  have h : ∀ w ∈ Bundle.ownAtoms own ic cls names, w.before args s' = true := vx_own hat' (vx_isRefq hU'.1) (vx_isRefq hN'.1) hU'.2.word hN'.2.word
  have hown' : s'.vm.findClass own = some m.cls := by rw [hvm]; exact hown
  have hins : (Cond.instantiable cls 6).before args s' = true := h _ (by simp [Bundle.ownAtoms])
  obtain ⟨vm₁, cX, kX, hfX, hkX, -, -, X₁, st1⟩ := Y.newCold hexec (own := own) (C := cls) (index := ik) (n := 6) hown' hk' hins hini'
    (g := F0 m pc ls rest) rfl (by rw [hb]; exact d0) (Nat.le_refl _) (Nat.le_refl _)
  generalize hT1 : (T.setVm vm₁).pushCell { cls := cX, slots := kX.instanceTypes.map defaultValue, vm := .none } = T1 at X₁ st1
  have hcat : (Value.ref T.heap.size).category = 1 := rfl
  have hcellA : T1.heap[T.heap.size]? = some (freshCell cX kX) := by rw [← hT1]; exact State.heap_pushCell_size _ _
  have d3' : decode c.code (pc + 3) = .ok (.dup, 1) := by rw [hb]; exact d3
  have d4' : decode c.code (pc + 4) = .ok (.ldc_w is, 3) := by rw [hb]; exact d4
  have hstr' : vk_R own is text sa s' := vk_R.warm hW0 hstr
  obtain ⟨U, hsteps, hrun, hend, hW, hsame, ce, hce, hO⟩ := X₁.ctorThrowS hexec htr (own := own) (cls := cls) (names := names) (ic := ic) hown' hcls hnames h (fun x hx => nomatch hx) hfX hkX hcellA (by rw [hhp, hT]; exact Nat.le_refl _) (msg := .ref sa) rfl
    (g := { method := m, pc := pc + 7, locals := ls, stack := .ref sa :: .ref T.heap.size :: .ref T.heap.size :: rest, locked := none }) rfl hsize rfl rfl (rest := rest) rfl
    (by rw [hb]; exact d7) (by rw [hb]; exact d10) hout hRframes (by simp only [List.map_cons, List.sum_cons, hcat]; omega) hlocks
  obtain ⟨f1, f2⟩ := vx_frame hsame
  rw [hhp] at f1 f2
  have hWs : s.WarmedH U.vm := State.WarmedH.trans hW0 hW
  have hcl : s.vm.findClass cls = some ce.cls := by
    have h9 := hO.cls
    rw [hvm] at h9
    exact h9
  have hall : s.sameButNew ({ U with vm := s.vm } : State) locs mc ms := by
    subst hA
    obtain ⟨e1, e2⟩ := hsame
    rw [State.setFrames_setFrames] at e1
    have h2 : (T.setVm s.vm).sameButNew ({ U with vm := s.vm } : State) [] (0 + 1) (0 + 6) := ⟨e1, e2⟩
    have h3 := X.same.trans h2
    rw [List.append_nil] at h3
    exact h3.mono hc hs
  refine ⟨U, ?_, .threw T.heap.size, hrun, hend, Or.inr ⟨T.heap.size, rfl, cls, ce, locs, hx U hWs.alike f1 (fun q hq => f2 q hq (fun z hz => nomatch hz)), hce, hO.vm, hcl, hWs, hall, hf⟩⟩
  refine st1 _ ?_
  show Steps p.tables e below (T1.setTop { method := m, pc := pc + 3, locals := ls, stack := .ref T.heap.size :: rest, locked := none }) _
  jvm_step X₁.here [X₁.here.top, hexec, d3', Value.category]
  exact X₁.ldcStringW hexec (own := own) (text := text) (index := is) (a := sa) hown' hstr'.1 hstr'.2
    (g := { method := m, pc := pc + 4, locals := ls, stack := .ref T.heap.size :: .ref T.heap.size :: rest, locked := none }) rfl d4' _ hsteps
end Ends
section Bodies
variable {l : Launch}
theorem vx_ofW {y : MethodName} {ws ws' : List Cond} {rm : Room} {Pc : Array Value → State → Prop} {Qc : Array Value → State → Outcome → State → Prop} {XC : String → State → State → Prop} {mc ms : Nat} {free : Addr → Prop} {cc : ByteArray} {maxL : Nat} {ret : Option FieldType}
    (hy : plainName y.cls = true) (hw : ws = Cond.code y cc maxL ret :: ws')
    (body : ∀ p e s m args below meth c s₁, BodyLoose p l y (headSpec ws rm) cc maxL ret e s m args below meth c s₁ → c.maxLocals = maxL → (∀ x ∈ c.exceptionTable.toList, False) → Pc args s →
      W p l e (headSpec ws rm).room s m args below meth c s.heap [] 0 0 (vx_MQ below Qc XC args s mc ms free) (entryFrame m args maxL)) : vx_Met l y ws rm Pc Qc XC mc ms free := by
  refine MetFree.of_bodyS (code := cc) (maxLocals := maxL) (ret := ret) hy ?_ ?_
  · intro args s m h hn
    obtain ⟨meth, c, h1, h2, h3, h4, h5, h6, -, -⟩ := Cond.code_spec hn (atoms_spec (ws := ws) h _ (by rw [hw]; exact List.mem_cons_self))
    exact ⟨meth, c, h1, h2, h3, h4, h5, h6⟩
  · intro p e s m args below meth c s₁ B hml hP _
    have hh0 : s₁.heap = s.heap := by rw [B.state]; rfl
    have ht : ∀ x ∈ c.exceptionTable.toList, False := by
      obtain ⟨meth9, c9, h1, h2, -, -, -, -, h7, -⟩ := Cond.code_spec B.named (atoms_spec (ws := ws) B.pre _ (by rw [hw]; exact List.mem_cons_self))
      cases Option.some.inj (h1.symm.trans B.method)
      cases Option.some.inj (h2.symm.trans (Stand.of_body B).code)
      intro x hx
      rw [Array.isEmpty_iff.mp h7] at hx
      cases hx
    obtain ⟨t, a1, o, b1, b2, b3⟩ := body p e s m args below meth c s₁ B hml ht hP s₁ hh0 (Stand.of_body B)
    exact ⟨t, o, a1, b1, b2, b3⟩
/-- the table of a body with handlers -/
theorem vx_table {p : Program} {x y : MethodName} {S : Spec} {cc bytes : ByteArray} {maxL maxL' : Nat} {ret ret' : Option FieldType} {e : Env} {s s₁ : State} {m : MethodId} {args : Array Value} {below : List Frame} {meth : Method} {c : Code} {hh : List (Nat × Nat × Nat × Nat)}
    (B : BodyLoose p l y S cc maxL ret e s m args below meth c s₁) (h : (Cond.codeWith y bytes maxL' ret' hh).before args s = true) : c.exceptionTable.toList = tableOf hh := by
  obtain ⟨m9, meth9, c9, hn9, h1, h2, -, -, h6, -⟩ := Cond.codeWith_spec h
  cases Option.some.inj (hn9.symm.trans B.named)
  cases Option.some.inj (h1.symm.trans B.method)
  cases Option.some.inj (h2.symm.trans (Stand.of_body B).code)
  rw [← h6, table_eq]
end Bodies
end VXA
/-! ===== END ===== -/
/-! ===== BEGIN a static call of a method with an exception table ===== -/
section VXS
variable {p : Program} {l : Launch} {e : Env} {R : Room} {s : State} {m : MethodId} {args : Array Value} {below : List Frame} {meth : Method} {c : Code} {T : State} {H : Heap} {locs : List Loc} {cells slots : Nat}
abbrev vx_CSW (R : Room) (s : State) (args : Array Value) (own : String) (index : Nat) (y : MethodName) (bytes : ByteArray) (maxL : Nat) (ret : Option FieldType) (hh : List (Nat × Nat × Nat × Nat)) (ws : List Cond) (rm : Room) (mc ms n : Nat) : Prop :=
  (rm.cells = mc ∧ rm.slots = ms ∧ rm.frames + 1 ≤ R.frames ∧ 8 + (maxL + 11) + rm.locals ≤ R.locals ∧ (∀ w ∈ ws, ∀ (a' : Array Value) (U : State), s.WarmedH U.vm → w.before a' U = true) ∧ Cond.codeWith y bytes maxL ret hh ∈ ws) ∧
  (Cond.codeWith y bytes maxL ret hh).before args s = true ∧ (Cond.initialized y.cls).before args s = true ∧ (y.cls ≠ "java/lang/invoke/MethodHandle" ∧ y.cls ≠ "java/lang/invoke/VarHandle") ∧
  (∀ sig, parseMethodDescriptor y.desc = some sig → n = sig.parameters.length) ∧ (Cond.methodLink own index y).before args s = true ∧ (Cond.static y).before args s = true
theorem vx_cwSW {own : String} {index maxL mc ms : Nat} {y : MethodName} {bytes : ByteArray} {ret : Option FieldType} {hh : List (Nat × Nat × Nat × Nat)} {Ts ws ws' : List Cond} {rm : Room} (n : Nat) (ht : ∀ w ∈ Ts, w.before args s = true) (hT : GoodIn Ts (va_wsS own index y ws)) (hw : ws = Cond.codeWith y bytes maxL ret hh :: ws') (hrc : rm.cells = mc) (hrs : rm.slots = ms)
    (hd : y.cls ≠ "java/lang/invoke/MethodHandle" ∧ y.cls ≠ "java/lang/invoke/VarHandle" ∧ (parseMethodDescriptor y.desc).map (fun d => d.parameters.length) = some n) (hR : rm.frames + 1 ≤ R.frames ∧ 8 + (maxL + 11) + rm.locals ≤ R.locals) :
    vx_CSW R s args own index y bytes maxL ret hh ws rm mc ms n := by
  have ok : ∀ w ∈ va_wsS own index y ws, w.before args s = true := fun w h => ht w (hT w h).1
  have hG : GoodIn Ts ws := fun w h => hT w (by unfold va_wsS; exact List.mem_append_right _ h)
  have hc : Cond.codeWith y bytes maxL ret hh ∈ ws := by rw [hw]; exact List.mem_cons_self
  refine ⟨⟨hrc, hrs, hR.1, hR.2, pay_in ht hG, hc⟩, ht _ (hG _ hc).1, ok _ (by simp [va_wsS]), ⟨hd.1, hd.2.1⟩, fun sig h => ?_, ok _ (by simp [va_wsS]), ok _ (by simp [va_wsS])⟩
  have h2 := hd.2.2
  rw [h] at h2
  exact (Option.some.inj h2).symm
theorem vx_callSW (X : Stand p l e R s m args below meth c T locs cells slots) (hexec : p.tables.exec = Jvm.exec) {own : String} {index : Nat} {y : MethodName} {bytes : ByteArray} {maxL : Nat} {ret : Option FieldType} {hh : List (Nat × Nat × Nat × Nat)}
    (hown : s.vm.findClass own = some m.cls) (hlink : (Cond.methodLink own index y).before args s = true) (hstat : (Cond.static y).before args s = true) (hinit : (Cond.initialized y.cls).before args s = true)
    (hcode : (Cond.codeWith y bytes maxL ret hh).before args s = true) (hy : y.cls ≠ "java/lang/invoke/MethodHandle" ∧ y.cls ≠ "java/lang/invoke/VarHandle")
    {W9 : Nat} {Pre : Pt → Array Value → Prop} {Post : Pt → Array Value → Option Value → Pt → Prop} (hK : Back l R p e below s args y 3 W9 Pre Post)
    {g : JFrame} (hg : g.method = m) (hsize : g.locals.size = c.maxLocals) {argsL rest : List Value} (hlen : ∀ sig, parseMethodDescriptor y.desc = some sig → argsL.length = sig.parameters.length)
    (hstack : g.stack = argsL.reverse ++ rest) (hW : 2 * g.monitorRoom + (rest.map fun v => v.category).sum ≤ W9) (hdg : decode c.code g.pc = .ok (.invokestatic index, 3))
    (hpre : ∀ vm₁, s.WarmedH vm₁ → Pre ⟨T.setVm vm₁, locs, cells, slots⟩ argsL.toArray) :
    ∃ (v : Option Value) (vm₁ : Vm) (B : Pt), s.WarmedH vm₁ ∧ Stand p l e R s m args below meth c B.U B.locs B.cells B.slots ∧ Post ⟨T.setVm vm₁, locs, cells, slots⟩ argsL.toArray v B ∧
      ∀ target, Steps p.tables e below (B.U.setTop { g with pc := g.pc + 3, stack := v.toList ++ rest }) target → Steps p.tables e below (T.setTop g) target := by
  obtain ⟨mk, methM, cM, hnamed, hmethM, -, -, -, -, -, -, hsigM⟩ := Cond.codeWith_spec hcode
  have hstatic : methM.isStatic = true := Cond.static_spec hnamed hmethM hstat
  obtain ⟨kP, hkP, -⟩ := className_of_methodNamed hnamed
  have hinitP : kP.init = .initialized := Cond.initialized_spec (findClass_of_methodNamed hnamed) hkP hinit
  obtain ⟨vm₁, X₁, hstep₁⟩ := X.invokestatic hexec hown hlink hnamed hmethM hstatic hkP hinitP hy (g := g) hg (argsL := argsL) (rest := rest) (hlen _ hsigM) hstack hdg
  obtain ⟨v, B, X', hpost, hsteps⟩ := hK m meth c ⟨T.setVm vm₁, locs, cells, slots⟩ { g with stack := rest } (.invokestatic index) mk argsL.toArray X₁ hg hsize hdg hW (X₁.named hnamed) (hpre vm₁ X₁.warmed)
  exact ⟨v, vm₁, B, X₁.warmed, X', hpost, fun target h => hstep₁ _ fun acts => by rw [doInvoke_state]; exact hsteps.trans h⟩
theorem vx_runSW {y : MethodName} {bytes cc : ByteArray} {maxL nL mc ms n index : Nat} {ret : Option FieldType} {hh : List (Nat × Nat × Nat × Nat)} {ws : List Cond} {rm : Room} {Pc : Array Value → State → Prop} {Qc : Array Value → State → Outcome → State → Prop} {free : Addr → Prop} {Ts : List Cond} {own : String} {As rest : List Value} {g : JFrame}
    (S : CallFix p m c cc nL s args Ts own) (hM : Met l y ws rm Pc Qc mc ms free) (cw : vx_CSW R s args own index y bytes maxL ret hh ws rm mc ms n) (hp : PreS s H Pc As)
    (hg : g.method = m) (hn : As.length = n) (hsize : g.locals.size = nL) (hstack : g.stack = As.reverse ++ rest) (hW : 2 * g.monitorRoom + (rest.map fun v => v.category).sum ≤ 8) (hdg : decode cc g.pc = .ok (.invokestatic index, 3)) (hf : cells + mc ≤ R.cells ∧ slots + ms ≤ R.slots) :
    va_Run p l e R s m args below meth c H locs cells slots mc ms g rest (Qc As.toArray) (free) := by
  obtain ⟨⟨hrc, hrs, hfr, hlo, hws, hcw⟩, hcode, hini, hy, hlen, hl, hstt⟩ := cw
  have hK : Back l R p e below s args y 3 8 (PreOf R mc ms Pc) (PostOf Qc mc ms free) := va_backW (hh := hh) (bytes := bytes) (maxL := maxL) (ret := ret) hM hp.1 hrc hrs hfr hlo hws hcw (fun a' U hW => word_at hW (Or.inl (by first | rfl | simp [Cond.onTables, Cond.keeps, Cond.steady])) hini)
  obtain ⟨hx, hb, hml, ho, -⟩ := S
  intro T hT X
  obtain ⟨v, vm₁, ⟨U', l2, c2, s2⟩, hW₁, X', ⟨g', mk, t, L, e1, e2, hq, h1, hL, h2, h3⟩, st⟩ := vx_callSW X hx (hh := hh) (bytes := bytes) (maxL := maxL) (ret := ret) ho hl hstt hini hcode hy hK hg (hsize.trans hml.symm) (argsL := As) (rest := rest) (fun sig h => hn.trans (hlen sig h)) hstack hW (by rw [hb]; exact hdg)
    (fun vm₁ hW₁ => ⟨hf.1, hf.2, hp.2 (T.setVm vm₁) hT hW₁⟩)
  dsimp only [Pt.U, Pt.locs, Pt.cells, Pt.slots] at X' e1 e2 h1 h2 h3 st
  subst h1; subst h2; subst h3
  exact ⟨v, (T.setVm vm₁).calling g' mk As.toArray, t, U', L, hT, X', hL, e1, e2, hq, st⟩
/-- not caught here, past rows that name other classes: it goes on to the caller -/
theorem vx_outP {p : Program} {l : Launch} {e : Env} {R : Room} {s : State} {m : MethodId} {args : Array Value} {below : List Frame} {meth : Method} {c : Code} {H : Heap} {locs : List Loc} {cells slots : Nat} {free : Addr → Prop} {ls : Array Slot} {rest : List Value} {Qc : Array Value → State → Outcome → State → Prop} {XC : String → State → State → Prop}
    {pc : Nat} {own E : String} {ce : Cell} {q : Addr} {mc ms : Nat} (hown : s.vm.findClass own = some m.cls) (hlocks : meth.locks = false)
    (hpass : ∀ z ∈ c.exceptionTable.toList, covers z pc = false ∨ (z.catchType ≠ 0 ∧ ∃ nm : String, (Cond.classLink own z.catchType nm).before args s = true ∧ va_Nc E nm s)) (hcell : H[q]? = some ce) (hv : ce.vm = .none) (hcl : s.vm.findClass E = some ce.cls)
    (hx : ∀ t : State, t.heap = H → s.vm.Alike t.vm → XC E s t) (hf : ∀ z ∈ locs, free z.base) (hc : cells ≤ mc) (hs : slots ≤ ms) :
    vx_W p l e R s m args below meth c H locs cells slots (vx_MQ below Qc XC args s mc ms free) (F0 m pc ls rest) q := by
  intro T hT X
  have hpl : e.platform.magicAccessors = ({} : Platform).magicAccessors := by rw [X.admits.platform]
  obtain ⟨vm', hW', X', st⟩ := X.outThrough hlocks q (g := F0 m pc ls rest) rfl rfl rfl (cell := ce) (by rw [hT]; exact hcell) (by rw [hv]; rfl)
    (by obtain ⟨k9, h9, -⟩ := Vm.findClass_spec hcl; exact ⟨k9, h9⟩) (fun z hz => by
      rcases hpass z hz with h | ⟨hz0, nm, hl1, hn1⟩
      · exact Or.inl h
      · obtain ⟨c6, hc6, hcl6⟩ := Cond.classLink_spec hown hl1 e.platform hpl
        obtain ⟨a8, b8, h1, h2, h3⟩ := hn1
        cases Option.some.inj (h1.symm.trans hcl)
        cases Option.some.inj (h2.symm.trans hc6)
        exact Or.inr ⟨hz0, _, hcl6, h3⟩)
  obtain ⟨g₀, hfr⟩ := X'.frames_eq
  have hcell9 : ((T.setVm vm').setFrames (.throwing q :: below)).heap[q]? = some ce := by
    show T.heap[q]? = some ce
    rw [hT]; exact hcell
  have hend : Ended ((T.setVm vm').setFrames (.throwing q :: below)) below (.threw q) := State.frames_setFrames _ (State.cur_lt_of_frames hfr)
  refine ⟨(T.setVm vm').setFrames (.throwing q :: below), ?_, .threw q, X'.here.running, hend, Or.inr ⟨q, rfl, E, ce, locs, hx _ hT (X'.ends _).1.alike, hcell9, hv, hcl, (X'.ends _).1, (X'.ends _).2.mono hc hs, hf⟩⟩
  rw [X.pushThrowing_eq]
  exact st
/-- a thing of a world lies in the heap -/
theorem vx_lt {D : va_G} {cl : List vw_C} {ws : va_W} {H1 : Heap} (h : va_P D cl ws H1) {k : Nat} {q : Nat × va_E} (hk : ws[k]? = some q) : q.1 < H1.size := (h k q hk).lt
end VXS
/-! ===== END ===== -/
/-! ===== BEGIN methods with a table of their own: called by a name, returning or throwing ===== -/
section VXH
/-! vx_backW, vx_callVX, vx_callSX, vx_callVW, vx_runVW, vx_runVX, vx_runSX, vx_ofWH follow the same proofs as their sisters above (Free/Laws.lean, Shelf42/LK1.lean); vx_outP calls Shelf42/NT130.lean (outThrough). -/
section
variable {l : Launch} {R : Room} {p : Program} {e : Env} {below : List Frame} {s : State} {sargs : Array Value} {y : MethodName} {len W9 : Nat}
theorem vx_backW {ws : List Cond} {rm : Room} {Pc : Array Value → State → Prop} {Qc : Array Value → State → Outcome → State → Prop} {XC : String → State → State → Prop} {mc ms : Nat} {free : Addr → Prop} {bytes : ByteArray} {maxL : Nat} {ret : Option FieldType} {hh : List (Nat × Nat × Nat × Nat)}
    (hM : vx_Met l y ws rm Pc Qc XC mc ms free) (hblind : FrameBlind Pc) (hrc : rm.cells = mc) (hrs : rm.slots = ms)
    (hframes : rm.frames + 1 ≤ R.frames) (hlocals : W9 + (maxL + 11) + rm.locals ≤ R.locals)
    (hws : ∀ w ∈ ws, ∀ a' U, s.WarmedH U.vm → w.before a' U = true) (hcode : Cond.codeWith y bytes maxL ret hh ∈ ws) (hinit : ∀ a' U, s.WarmedH U.vm → (Cond.initialized y.cls).before a' U = true) :
    vx_Back l R p e below s sargs y len W9 (PreOf R mc ms Pc) (PostOf Qc mc ms free) (vx_Post XC mc ms free) := by
  intro m meth c A g ig mk a X hg hsize hdg hW hn hp
  have h1 : (headSpec ws rm).pre.before a A.U = true := atoms_intro fun w hw => hws w hw _ _ X.warmed
  have h2 : (Cond.codeWith y bytes maxL ret hh).before a A.U = true := hws _ hcode _ _ X.warmed
  have h3 : (Cond.initialized y.cls).before a A.U = true := hinit _ _ X.warmed
  have h4 : A.cells + (headSpec ws rm).room.cells ≤ R.cells := by rw [show (headSpec ws rm).room.cells = mc from hrc]; exact hp.1
  have h5 : A.slots + (headSpec ws rm).room.slots ≤ R.slots := by rw [show (headSpec ws rm).room.slots = ms from hrs]; exact hp.2.1
  have hPc : Pc a (A.U.calling g mk a) := hblind _ _ _ _ hp.2.2
  obtain ⟨U, Ls, c0, s0⟩ := A
  dsimp only [Pt.U, Pt.locs, Pt.cells, Pt.slots] at h1 h2 h3 h4 h5 X hn hPc ⊢
  obtain ⟨m9, methY, cY, hn9, hmY, hcY, -, hlY, -⟩ := Cond.codeWith_spec h2
  cases Option.some.inj (hn9.symm.trans hn)
  obtain ⟨kY, hkY, -⟩ := className_of_methodNamed hn
  have hinitY : kY.init = .initialized := Cond.initialized_spec (findClass_of_methodNamed hn) hkY h3
  have h : At U g.method c below := by rw [hg]; exact X.here
  have hlocals9 : W9 + (maxL + 11) + (headSpec ws rm).room.locals ≤ R.locals := hlocals
  have happ : (headSpec ws rm).appliesLoose y e.platform (U.calling g mk a) = true :=
    Spec.appliesLoose_calling (g := g) h hdg hn hkY hinitY
      (X.room_calling (g := g) (R' := (headSpec ws rm).room) hsize hmY hcY hframes (by rw [hlY]; omega) h4 h5) h1
  obtain ⟨mid, hmid⟩ := h.above
  have hfr : (U.setTop g).frames = (.java g :: mid) ++ below := by rw [State.frames_setTop' g h.top, hmid]; rfl
  obtain ⟨o, s₂, hsteps, -, hend, hq⟩ := Steps.callFree hM p X.admits X.cas X.clock (acts := []) hfr happ hPc trivial
  have hq' : vx_Q Qc XC mc ms free a (U.calling g mk a) o s₂ := hq
  rw [State.frames_setTop' g h.top] at hend
  obtain ⟨g₀, hg0⟩ := Option.isSome_iff_exists.mp h.top
  obtain ⟨r, hr⟩ := State.topJava?_eq_some.mp hg0
  have hr' : (({ U with heap := s₂.heap, slotsUsed := s₂.slotsUsed } : State).setVm s₂.vm).frames = .java g₀ :: r := hr
  rcases hq' with ⟨hqc, L, hfe, hL⟩ | ⟨q, rfl, E, ce, L, hx, hce, hcv, hcl, hW₂, hsm, hL⟩
  · obtain ⟨⟨v, rfl⟩, hW₂, e2, q2, q3, q4, q5, q6⟩ := id hfe
    have e3 : s₂ = ({ (U.calling g mk a).setFrames s₂.frames with heap := s₂.heap, slotsUsed := s₂.slotsUsed } : State).setVm s₂.vm := by
      have : s₂ = ({ s₂ with vm := (U.calling g mk a).vm } : State).setVm s₂.vm := rfl
      rw [e2] at this
      exact this
    obtain ⟨c₂, i₂, len₂, hc₂, hd₂, hf₂⟩ := hend
    have hW' : U.WarmedH s₂.vm := hW₂
    have hcc : c₂ = c := by
      have h1 : s₂.code? g.method = U.code? g.method := by
        rw [State.code?_eq, State.code?_eq, hW'.alike.method?]
      exact Option.some.inj (hc₂.symm.trans (h1.trans h.code))
    subst hcc
    have hlen : len₂ = len := by rw [hdg] at hd₂; cases hd₂; rfl
    subst hlen
    have hs₂ : s₂ = (({ U with heap := s₂.heap, slotsUsed := s₂.slotsUsed } : State).setVm s₂.vm).setTop { g with pc := g.pc + len₂, stack := v.toList ++ g.stack } := by
      refine e3.trans ?_
      rw [hf₂, State.calling_eq h.top, State.setFrames_setFrames, State.setTop_of_frames _ hr', hr]
      rfl
    have hsame : U.sameButNew ({ U with heap := s₂.heap, slotsUsed := s₂.slotsUsed } : State) L mc ms := by
      refine ⟨?_, q2, q3, q4, q5, q6⟩
      obtain ⟨t, ht, -⟩ := State.frames_cons hr
      show ({ U with heap := s₂.heap, slotsUsed := s₂.slotsUsed } : State) = { U.setFrames U.frames with heap := s₂.heap, slotsUsed := s₂.slotsUsed }
      rw [State.setFrames_self ht]
    subst hg
    refine Or.inl ⟨v, ⟨(({ U with heap := s₂.heap, slotsUsed := s₂.slotsUsed } : State).setVm s₂.vm), Ls ++ L, c0 + mc, s0 + ms⟩,
      ⟨X.admits, X.cas, X.clock, X.frames, X.room, X.hears, X.method, X.code, (X.here.setHeapUsed s₂.heap s₂.slotsUsed).setVm hW'.alike, X.tail, State.WarmedH.trans X.warmed hW', X.limits, X.bytes, X.same.trans (hsame.setVm s.vm)⟩,
      ⟨g, mk, s₂, L, rfl, rfl, hqc, rfl, hL, rfl, rfl⟩, ?_⟩
    show Steps p.tables e below _ ((({ U with heap := s₂.heap, slotsUsed := s₂.slotsUsed } : State).setVm s₂.vm).setTop { g with pc := g.pc + len₂, stack := v.toList ++ g.stack })
    rw [← hs₂]
    exact hsteps
  · obtain ⟨e2, q2, q3, q4, q5, q6⟩ := id hsm
    have e3 : s₂ = ({ (U.calling g mk a).setFrames s₂.frames with heap := s₂.heap, slotsUsed := s₂.slotsUsed } : State).setVm s₂.vm := by
      have : s₂ = ({ s₂ with vm := (U.calling g mk a).vm } : State).setVm s₂.vm := rfl
      rw [e2] at this
      exact this
    have hf₂ : s₂.frames = .throwing q :: .java g :: U.frames.tail := hend
    have hW' : U.WarmedH s₂.vm := hW₂
    have hs₂ : s₂ = ((({ U with heap := s₂.heap, slotsUsed := s₂.slotsUsed } : State).setVm s₂.vm).setTop g).pushFrame (.throwing q) := by
      refine e3.trans ?_
      rw [hf₂, State.calling_eq h.top, State.setFrames_setFrames, State.pushFrame, State.frames_setTop _ hr', State.setTop_of_frames _ hr', State.setFrames_setFrames, hr]
      rfl
    have hsame : U.sameButNew ({ U with heap := s₂.heap, slotsUsed := s₂.slotsUsed } : State) L mc ms := by
      refine ⟨?_, q2, q3, q4, q5, q6⟩
      obtain ⟨t, ht, -⟩ := State.frames_cons hr
      show ({ U with heap := s₂.heap, slotsUsed := s₂.slotsUsed } : State) = { U.setFrames U.frames with heap := s₂.heap, slotsUsed := s₂.slotsUsed }
      rw [State.setFrames_self ht]
    subst hg
    refine Or.inr ⟨q, ⟨(({ U with heap := s₂.heap, slotsUsed := s₂.slotsUsed } : State).setVm s₂.vm), Ls ++ L, c0 + mc, s0 + ms⟩,
      ⟨X.admits, X.cas, X.clock, X.frames, X.room, X.hears, X.method, X.code, (X.here.setHeapUsed s₂.heap s₂.slotsUsed).setVm hW'.alike, X.tail, State.WarmedH.trans X.warmed hW', X.limits, X.bytes, X.same.trans (hsame.setVm s.vm)⟩,
      ⟨g, mk, s₂, L, E, ce, rfl, rfl, hx, hce, hcv, hcl, rfl, hL, rfl, rfl⟩, ?_⟩
    show Steps p.tables e below _ (((({ U with heap := s₂.heap, slotsUsed := s₂.slotsUsed } : State).setVm s₂.vm).setTop g).pushFrame (.throwing q))
    rw [← hs₂]
    exact hsteps
end
variable {p : Program} {l : Launch} {e : Env} {R : Room} {s : State} {m : MethodId} {args : Array Value} {below : List Frame} {meth : Method} {c : Code} {T : State} {H : Heap} {locs : List Loc} {cells slots : Nat}
theorem vx_callVX (X : Stand p l e R s m args below meth c T locs cells slots) (hexec : p.tables.exec = Jvm.exec) {own C : String} {index : Nat} {y : MethodName} {bytes : ByteArray} {maxL : Nat} {ret : Option FieldType} {hh : List (Nat × Nat × Nat × Nat)}
    (hown : s.vm.findClass own = some m.cls) (hlink : (Cond.methodLink own index y).before args s = true) (hinst : (Cond.instanceMethod y).before args s = true) (hsel : (Cond.selects C y y).before args s = true)
    (hcode : (Cond.codeWith y bytes maxL ret hh).before args s = true) (hy : y.cls ≠ "java/lang/invoke/MethodHandle" ∧ y.cls ≠ "java/lang/invoke/VarHandle")
    {W9 : Nat} {Pre : Pt → Array Value → Prop} {Post : Pt → Array Value → Option Value → Pt → Prop} {PostX : Pt → Array Value → Addr → Pt → Prop} (hK : vx_Back l R p e below s args y 3 W9 Pre Post PostX)
    {b : Addr} {cellB : Cell} (hcell : T.heap[b]? = some cellB) (hobj : cellB.vm.isStatics = false) (hcls : s.vm.findClass C = some cellB.cls)
    {g : JFrame} (hg : g.method = m) (hsize : g.locals.size = c.maxLocals) {argsL rest : List Value} (hlen : ∀ sig, parseMethodDescriptor y.desc = some sig → argsL.length = sig.parameters.length)
    (hstack : g.stack = argsL.reverse ++ .ref b :: rest) (hW : 2 * g.monitorRoom + (rest.map fun v => v.category).sum ≤ W9) (hdg : decode c.code g.pc = .ok (.invokevirtual index, 3))
    (hpre : ∀ vm₁, s.WarmedH vm₁ → Pre ⟨T.setVm vm₁, locs, cells, slots⟩ (Value.ref b :: argsL).toArray) :
    (∃ (v : Option Value) (vm₁ : Vm) (B : Pt), s.WarmedH vm₁ ∧ Stand p l e R s m args below meth c B.U B.locs B.cells B.slots ∧ Post ⟨T.setVm vm₁, locs, cells, slots⟩ (Value.ref b :: argsL).toArray v B ∧
      ∀ target, Steps p.tables e below (B.U.setTop { g with pc := g.pc + 3, stack := v.toList ++ rest }) target → Steps p.tables e below (T.setTop g) target) ∨
    (∃ (q : Addr) (vm₁ : Vm) (B : Pt), s.WarmedH vm₁ ∧ Stand p l e R s m args below meth c B.U B.locs B.cells B.slots ∧ PostX ⟨T.setVm vm₁, locs, cells, slots⟩ (Value.ref b :: argsL).toArray q B ∧
      Steps p.tables e below (T.setTop g) ((B.U.setTop { g with stack := rest }).pushFrame (.throwing q))) := by
  obtain ⟨mk, methM, hnamed, hmethM, hstM, habM⟩ := Cond.instanceMethod_spec hinst
  obtain ⟨m8, methM', cM, hn8, hmethM', -, -, -, -, -, -, hsigM⟩ := Cond.codeWith_spec hcode
  cases Option.some.inj (hn8.symm.trans hnamed)
  cases hmethM.symm.trans hmethM'
  obtain ⟨c2, r2, m2, q1, q2, q3, q4, kP, hkP, hkPi⟩ := Cond.selects_spec hsel
  cases hcls.symm.trans q1
  cases (State.methodFound?_of_named hnamed hy).symm.trans q2
  cases hnamed.symm.trans q3
  have hselP : selectMethod e.platform s.vm cellB.cls mk = .method mk := by rw [Launch.admits_selectMethod X.admits]; exact q4
  obtain ⟨vm₁, X₁, hstep₁⟩ := X.invokevirtual hexec hown hlink hnamed hmethM hstM hkP hkPi hy (a := b) (cell := cellB) hcell
    (fun z h => by rw [h] at hobj; cases hobj) hselP hmethM habM hkP hkPi (g := g) hg (argsL := argsL) (rest := rest) (hlen _ hsigM) hstack hdg
  rcases hK m meth c ⟨T.setVm vm₁, locs, cells, slots⟩ { g with stack := rest } (.invokevirtual index) mk (Value.ref b :: argsL).toArray X₁ hg hsize hdg hW (X₁.named hnamed) (hpre vm₁ X₁.warmed) with ⟨v, B, X', hpost, hsteps⟩ | ⟨q, B, X', hpost, hsteps⟩
  · exact Or.inl ⟨v, vm₁, B, X₁.warmed, X', hpost, fun target h => hstep₁ _ fun acts => by rw [doInvoke_state]; exact hsteps.trans h⟩
  · exact Or.inr ⟨q, vm₁, B, X₁.warmed, X', hpost, hstep₁ _ fun acts => by rw [doInvoke_state]; exact hsteps⟩
theorem vx_callSX (X : Stand p l e R s m args below meth c T locs cells slots) (hexec : p.tables.exec = Jvm.exec) {own : String} {index : Nat} {y : MethodName} {bytes : ByteArray} {maxL : Nat} {ret : Option FieldType} {hh : List (Nat × Nat × Nat × Nat)}
    (hown : s.vm.findClass own = some m.cls) (hlink : (Cond.methodLink own index y).before args s = true) (hstat : (Cond.static y).before args s = true) (hinit : (Cond.initialized y.cls).before args s = true)
    (hcode : (Cond.codeWith y bytes maxL ret hh).before args s = true) (hy : y.cls ≠ "java/lang/invoke/MethodHandle" ∧ y.cls ≠ "java/lang/invoke/VarHandle")
    {W9 : Nat} {Pre : Pt → Array Value → Prop} {Post : Pt → Array Value → Option Value → Pt → Prop} {PostX : Pt → Array Value → Addr → Pt → Prop} (hK : vx_Back l R p e below s args y 3 W9 Pre Post PostX)
    {g : JFrame} (hg : g.method = m) (hsize : g.locals.size = c.maxLocals) {argsL rest : List Value} (hlen : ∀ sig, parseMethodDescriptor y.desc = some sig → argsL.length = sig.parameters.length)
    (hstack : g.stack = argsL.reverse ++ rest) (hW : 2 * g.monitorRoom + (rest.map fun v => v.category).sum ≤ W9) (hdg : decode c.code g.pc = .ok (.invokestatic index, 3))
    (hpre : ∀ vm₁, s.WarmedH vm₁ → Pre ⟨T.setVm vm₁, locs, cells, slots⟩ argsL.toArray) :
    (∃ (v : Option Value) (vm₁ : Vm) (B : Pt), s.WarmedH vm₁ ∧ Stand p l e R s m args below meth c B.U B.locs B.cells B.slots ∧ Post ⟨T.setVm vm₁, locs, cells, slots⟩ argsL.toArray v B ∧
      ∀ target, Steps p.tables e below (B.U.setTop { g with pc := g.pc + 3, stack := v.toList ++ rest }) target → Steps p.tables e below (T.setTop g) target) ∨
    (∃ (q : Addr) (vm₁ : Vm) (B : Pt), s.WarmedH vm₁ ∧ Stand p l e R s m args below meth c B.U B.locs B.cells B.slots ∧ PostX ⟨T.setVm vm₁, locs, cells, slots⟩ argsL.toArray q B ∧
      Steps p.tables e below (T.setTop g) ((B.U.setTop { g with stack := rest }).pushFrame (.throwing q))) := by
  obtain ⟨mk, methM, cM, hnamed, hmethM, -, -, -, -, -, -, hsigM⟩ := Cond.codeWith_spec hcode
  have hstatic : methM.isStatic = true := Cond.static_spec hnamed hmethM hstat
  obtain ⟨kP, hkP, -⟩ := className_of_methodNamed hnamed
  have hinitP : kP.init = .initialized := Cond.initialized_spec (findClass_of_methodNamed hnamed) hkP hinit
  obtain ⟨vm₁, X₁, hstep₁⟩ := X.invokestatic hexec hown hlink hnamed hmethM hstatic hkP hinitP hy (g := g) hg (argsL := argsL) (rest := rest) (hlen _ hsigM) hstack hdg
  rcases hK m meth c ⟨T.setVm vm₁, locs, cells, slots⟩ { g with stack := rest } (.invokestatic index) mk argsL.toArray X₁ hg hsize hdg hW (X₁.named hnamed) (hpre vm₁ X₁.warmed) with ⟨v, B, X', hpost, hsteps⟩ | ⟨q, B, X', hpost, hsteps⟩
  · exact Or.inl ⟨v, vm₁, B, X₁.warmed, X', hpost, fun target h => hstep₁ _ fun acts => by rw [doInvoke_state]; exact hsteps.trans h⟩
  · exact Or.inr ⟨q, vm₁, B, X₁.warmed, X', hpost, hstep₁ _ fun acts => by rw [doInvoke_state]; exact hsteps⟩
theorem vx_callVW (X : Stand p l e R s m args below meth c T locs cells slots) (hexec : p.tables.exec = Jvm.exec) {own C : String} {index : Nat} {y : MethodName} {bytes : ByteArray} {maxL : Nat} {ret : Option FieldType} {hh : List (Nat × Nat × Nat × Nat)}
    (hown : s.vm.findClass own = some m.cls) (hlink : (Cond.methodLink own index y).before args s = true) (hinst : (Cond.instanceMethod y).before args s = true) (hsel : (Cond.selects C y y).before args s = true)
    (hcode : (Cond.codeWith y bytes maxL ret hh).before args s = true) (hy : y.cls ≠ "java/lang/invoke/MethodHandle" ∧ y.cls ≠ "java/lang/invoke/VarHandle")
    {W9 : Nat} {Pre : Pt → Array Value → Prop} {Post : Pt → Array Value → Option Value → Pt → Prop} (hK : Back l R p e below s args y 3 W9 Pre Post)
    {b : Addr} {cellB : Cell} (hcell : T.heap[b]? = some cellB) (hobj : cellB.vm.isStatics = false) (hcls : s.vm.findClass C = some cellB.cls)
    {g : JFrame} (hg : g.method = m) (hsize : g.locals.size = c.maxLocals) {argsL rest : List Value} (hlen : ∀ sig, parseMethodDescriptor y.desc = some sig → argsL.length = sig.parameters.length)
    (hstack : g.stack = argsL.reverse ++ .ref b :: rest) (hW : 2 * g.monitorRoom + (rest.map fun v => v.category).sum ≤ W9) (hdg : decode c.code g.pc = .ok (.invokevirtual index, 3))
    (hpre : ∀ vm₁, s.WarmedH vm₁ → Pre ⟨T.setVm vm₁, locs, cells, slots⟩ (Value.ref b :: argsL).toArray) :
    ∃ (v : Option Value) (vm₁ : Vm) (B : Pt), s.WarmedH vm₁ ∧ Stand p l e R s m args below meth c B.U B.locs B.cells B.slots ∧ Post ⟨T.setVm vm₁, locs, cells, slots⟩ (Value.ref b :: argsL).toArray v B ∧
      ∀ target, Steps p.tables e below (B.U.setTop { g with pc := g.pc + 3, stack := v.toList ++ rest }) target → Steps p.tables e below (T.setTop g) target := by
  obtain ⟨mk, methM, hnamed, hmethM, hstM, habM⟩ := Cond.instanceMethod_spec hinst
  obtain ⟨m8, methM', cM, hn8, hmethM', -, -, -, -, -, -, hsigM⟩ := Cond.codeWith_spec hcode
  cases Option.some.inj (hn8.symm.trans hnamed)
  cases hmethM.symm.trans hmethM'
  obtain ⟨c2, r2, m2, q1, q2, q3, q4, kP, hkP, hkPi⟩ := Cond.selects_spec hsel
  cases hcls.symm.trans q1
  cases (State.methodFound?_of_named hnamed hy).symm.trans q2
  cases hnamed.symm.trans q3
  have hselP : selectMethod e.platform s.vm cellB.cls mk = .method mk := by rw [Launch.admits_selectMethod X.admits]; exact q4
  obtain ⟨vm₁, X₁, hstep₁⟩ := X.invokevirtual hexec hown hlink hnamed hmethM hstM hkP hkPi hy (a := b) (cell := cellB) hcell
    (fun z h => by rw [h] at hobj; cases hobj) hselP hmethM habM hkP hkPi (g := g) hg (argsL := argsL) (rest := rest) (hlen _ hsigM) hstack hdg
  obtain ⟨v, B, X', hpost, hsteps⟩ := hK m meth c ⟨T.setVm vm₁, locs, cells, slots⟩ { g with stack := rest } (.invokevirtual index) mk (Value.ref b :: argsL).toArray X₁ hg hsize hdg hW (X₁.named hnamed) (hpre vm₁ X₁.warmed)
  exact ⟨v, vm₁, B, X₁.warmed, X', hpost, fun target h => hstep₁ _ fun acts => by rw [doInvoke_state]; exact hsteps.trans h⟩
abbrev vx_CVW (R : Room) (s : State) (args : Array Value) (own C : String) (index : Nat) (y : MethodName) (bytes : ByteArray) (maxL : Nat) (ret : Option FieldType) (hh : List (Nat × Nat × Nat × Nat)) (ws : List Cond) (rm : Room) (mc ms n : Nat) : Prop :=
  (rm.cells = mc ∧ rm.slots = ms ∧ rm.frames + 1 ≤ R.frames ∧ 8 + (maxL + 11) + rm.locals ≤ R.locals ∧ (∀ w ∈ ws, ∀ (a' : Array Value) (U : State), s.WarmedH U.vm → w.before a' U = true) ∧ Cond.codeWith y bytes maxL ret hh ∈ ws) ∧
  (Cond.codeWith y bytes maxL ret hh).before args s = true ∧ (Cond.initialized y.cls).before args s = true ∧ (y.cls ≠ "java/lang/invoke/MethodHandle" ∧ y.cls ≠ "java/lang/invoke/VarHandle") ∧
  (∀ sig, parseMethodDescriptor y.desc = some sig → n = sig.parameters.length) ∧ (Cond.methodLink own index y).before args s = true ∧ (Cond.instanceMethod y).before args s = true ∧ (Cond.selects C y y).before args s = true
theorem vx_cwVW {own C : String} {index maxL mc ms : Nat} {y : MethodName} {bytes : ByteArray} {ret : Option FieldType} {hh : List (Nat × Nat × Nat × Nat)} {Ts ws ws' : List Cond} {rm : Room} (n : Nat) (ht : ∀ w ∈ Ts, w.before args s = true) (hT : GoodIn Ts (wsV own index C y ws)) (hw : ws = Cond.codeWith y bytes maxL ret hh :: ws') (hrc : rm.cells = mc) (hrs : rm.slots = ms)
    (hd : y.cls = C ∧ y.cls ≠ "java/lang/invoke/MethodHandle" ∧ y.cls ≠ "java/lang/invoke/VarHandle" ∧ (parseMethodDescriptor y.desc).map (fun d => d.parameters.length) = some n) (hR : rm.frames + 1 ≤ R.frames ∧ 8 + (maxL + 11) + rm.locals ≤ R.locals) :
    vx_CVW R s args own C index y bytes maxL ret hh ws rm mc ms n := by
  obtain ⟨hC, hd⟩ := hd
  subst hC
  have ok : ∀ w ∈ wsV own index y.cls y ws, w.before args s = true := fun w h => ht w (hT w h).1
  have hG : GoodIn Ts ws := fun w h => hT w (by unfold wsV; exact List.mem_append_right _ h)
  have hc : Cond.codeWith y bytes maxL ret hh ∈ ws := by rw [hw]; exact List.mem_cons_self
  refine ⟨⟨hrc, hrs, hR.1, hR.2, pay_in ht hG, hc⟩, ht _ (hG _ hc).1, ok _ (by simp [wsV]), ⟨hd.1, hd.2.1⟩, fun sig h => ?_, ok _ (by simp [wsV]), ok _ (by simp [wsV]), ok _ (by simp [wsV])⟩
  have h2 := hd.2.2
  rw [h] at h2
  exact (Option.some.inj h2).symm
theorem vx_runVW {y : MethodName} {bytes cc : ByteArray} {maxL nL mc ms n index : Nat} {ret : Option FieldType} {hh : List (Nat × Nat × Nat × Nat)} {ws : List Cond} {rm : Room} {Pc : Array Value → State → Prop} {Qc : Array Value → State → Outcome → State → Prop} {free : Addr → Prop} {Ts : List Cond} {own C : String} {b : Addr} {As rest : List Value} {g : JFrame}
    (S : CallFix p m c cc nL s args Ts own) (hM : Met l y ws rm Pc Qc mc ms free) (cw : vx_CVW R s args own C index y bytes maxL ret hh ws rm mc ms n) (hp : PreV s H C b Pc As)
    (hg : g.method = m) (hn : As.length = n) (hsize : g.locals.size = nL) (hstack : g.stack = As.reverse ++ .ref b :: rest) (hW : 2 * g.monitorRoom + (rest.map fun v => v.category).sum ≤ 8) (hdg : decode cc g.pc = .ok (.invokevirtual index, 3)) (hf : cells + mc ≤ R.cells ∧ slots + ms ≤ R.slots) :
    va_Run p l e R s m args below meth c H locs cells slots mc ms g rest (Qc (Value.ref b :: As).toArray) free := by
  obtain ⟨⟨hrc, hrs, hfr, hlo, hws, hcw⟩, hcode, hini, hy, hlen, hl, hin, hse⟩ := cw
  have hK : Back l R p e below s args y 3 8 (PreOf R mc ms Pc) (PostOf Qc mc ms free) := va_backW (hh := hh) (bytes := bytes) (maxL := maxL) (ret := ret) hM hp.1 hrc hrs hfr hlo hws hcw (fun a' U hW => word_at hW (Or.inl (by first | rfl | simp [Cond.onTables, Cond.keeps, Cond.steady])) hini)
  obtain ⟨hx, hb, hml, ho, -⟩ := S
  obtain ⟨-, ⟨cellB, hcB, hoB, hclB⟩, hPc⟩ := hp
  intro T hT X
  obtain ⟨v, vm₁, ⟨U', l2, c2, s2⟩, hW₁, X', ⟨g', mk, t, L, e1, e2, hq, h1, hL, h2, h3⟩, st⟩ := vx_callVW X hx (C := C) (hh := hh) (bytes := bytes) (maxL := maxL) (ret := ret) ho hl hin hse hcode hy hK (by rw [hT]; exact hcB) hoB hclB hg (hsize.trans hml.symm) (argsL := As) (rest := rest) (fun sig h => hn.trans (hlen sig h)) hstack hW (by rw [hb]; exact hdg)
    (fun vm₁ hW₁ => ⟨hf.1, hf.2, hPc (T.setVm vm₁) hT hW₁⟩)
  dsimp only [Pt.U, Pt.locs, Pt.cells, Pt.slots] at X' e1 e2 h1 h2 h3 st
  subst h1; subst h2; subst h3
  exact ⟨v, (T.setVm vm₁).calling g' mk (Value.ref b :: As).toArray, t, U', L, hT, X', hL, e1, e2, hq, st⟩
section
variable {y : MethodName} {bytes cc : ByteArray} {maxL nL mc ms n index : Nat} {ret : Option FieldType} {ws : List Cond} {rm : Room} {Pc : Array Value → State → Prop} {Qc : Array Value → State → Outcome → State → Prop} {XC : String → State → State → Prop} {free : Addr → Prop} {Ts : List Cond} {own C : String} {b : Addr} {As rest : List Value} {g : JFrame}
theorem vx_runVX {hh : List (Nat × Nat × Nat × Nat)} (S : CallFix p m c cc nL s args Ts own) (hM : vx_Met l y ws rm Pc Qc XC mc ms free) (cw : vx_CVW R s args own C index y bytes maxL ret hh ws rm mc ms n) (hp : PreV s H C b Pc As)
    (hg : g.method = m) (hn : As.length = n) (hsize : g.locals.size = nL) (hstack : g.stack = As.reverse ++ .ref b :: rest) (hW : 2 * g.monitorRoom + (rest.map fun v => v.category).sum ≤ 8) (hdg : decode cc g.pc = .ok (.invokevirtual index, 3)) (hf : cells + mc ≤ R.cells ∧ slots + ms ≤ R.slots) :
    vx_Run p l e R s m args below meth c H locs cells slots mc ms g rest (Qc (Value.ref b :: As).toArray) XC free := by
  obtain ⟨⟨hrc, hrs, hfr, hlo, hws, hcw⟩, hcode, hini, hy, hlen, hl, hin, hse⟩ := cw
  have hK : vx_Back l R p e below s args y 3 8 (PreOf R mc ms Pc) (PostOf Qc mc ms free) (vx_Post XC mc ms free) := vx_backW (hh := hh) (bytes := bytes) (maxL := maxL) (ret := ret) hM hp.1 hrc hrs hfr hlo hws hcw (fun a' U hW => word_at hW (Or.inl (by first | rfl | simp [Cond.onTables, Cond.keeps, Cond.steady])) hini)
  obtain ⟨hx, hb, hml, ho, -⟩ := S
  obtain ⟨-, ⟨cellB, hcB, hoB, hclB⟩, hPc⟩ := hp
  intro T hT X
  rcases vx_callVX X hx (C := C) (hh := hh) (bytes := bytes) (maxL := maxL) (ret := ret) ho hl hin hse hcode hy hK (by rw [hT]; exact hcB) hoB hclB hg (hsize.trans hml.symm) (argsL := As) (rest := rest) (fun sig h => hn.trans (hlen sig h)) hstack hW (by rw [hb]; exact hdg)
    (fun vm₁ hW₁ => ⟨hf.1, hf.2, hPc (T.setVm vm₁) hT hW₁⟩) with ⟨v, vm₁, ⟨U', l2, c2, s2⟩, hW₁, X', ⟨g', mk, t, L, e1, e2, hq, h1, hL, h2, h3⟩, st⟩ | ⟨q, vm₁, ⟨U', l2, c2, s2⟩, hW₁, X', ⟨g', mk, t, L, E, ce, e1, e2, hq, hce, hcv, hcl, h1, hL, h2, h3⟩, st⟩
  · dsimp only [Pt.U, Pt.locs, Pt.cells, Pt.slots] at X' e1 e2 h1 h2 h3 st
    subst h1; subst h2; subst h3
    exact Or.inl ⟨v, (T.setVm vm₁).calling g' mk (Value.ref b :: As).toArray, t, U', L, hT, X', hL, e1, e2, hq, st⟩
  · dsimp only [Pt.U, Pt.locs, Pt.cells, Pt.slots] at X' e1 e2 h1 h2 h3 st hcl
    subst h1; subst h2; subst h3
    exact Or.inr ⟨q, (T.setVm vm₁).calling g' mk (Value.ref b :: As).toArray, t, U', L, E, ce, hT, X', hL, e1, e2, hq, hce, hcv, vx_cls hW₁ hcl, st⟩
theorem vx_runSX {hh : List (Nat × Nat × Nat × Nat)} (S : CallFix p m c cc nL s args Ts own) (hM : vx_Met l y ws rm Pc Qc XC mc ms free) (cw : vx_CSW R s args own index y bytes maxL ret hh ws rm mc ms n) (hp : PreS s H Pc As)
    (hg : g.method = m) (hn : As.length = n) (hsize : g.locals.size = nL) (hstack : g.stack = As.reverse ++ rest) (hW : 2 * g.monitorRoom + (rest.map fun v => v.category).sum ≤ 8) (hdg : decode cc g.pc = .ok (.invokestatic index, 3)) (hf : cells + mc ≤ R.cells ∧ slots + ms ≤ R.slots) :
    vx_Run p l e R s m args below meth c H locs cells slots mc ms g rest (Qc As.toArray) XC free := by
  obtain ⟨⟨hrc, hrs, hfr, hlo, hws, hcw⟩, hcode, hini, hy, hlen, hl, hstt⟩ := cw
  have hK : vx_Back l R p e below s args y 3 8 (PreOf R mc ms Pc) (PostOf Qc mc ms free) (vx_Post XC mc ms free) := vx_backW (hh := hh) (bytes := bytes) (maxL := maxL) (ret := ret) hM hp.1 hrc hrs hfr hlo hws hcw (fun a' U hW => word_at hW (Or.inl (by first | rfl | simp [Cond.onTables, Cond.keeps, Cond.steady])) hini)
  obtain ⟨hx, hb, hml, ho, -⟩ := S
  intro T hT X
  rcases vx_callSX X hx (hh := hh) (bytes := bytes) (maxL := maxL) (ret := ret) ho hl hstt hini hcode hy hK hg (hsize.trans hml.symm) (argsL := As) (rest := rest) (fun sig h => hn.trans (hlen sig h)) hstack hW (by rw [hb]; exact hdg)
    (fun vm₁ hW₁ => ⟨hf.1, hf.2, hp.2 (T.setVm vm₁) hT hW₁⟩) with ⟨v, vm₁, ⟨U', l2, c2, s2⟩, hW₁, X', ⟨g', mk, t, L, e1, e2, hq, h1, hL, h2, h3⟩, st⟩ | ⟨q, vm₁, ⟨U', l2, c2, s2⟩, hW₁, X', ⟨g', mk, t, L, E, ce, e1, e2, hq, hce, hcv, hcl, h1, hL, h2, h3⟩, st⟩
  · dsimp only [Pt.U, Pt.locs, Pt.cells, Pt.slots] at X' e1 e2 h1 h2 h3 st
    subst h1; subst h2; subst h3
    exact Or.inl ⟨v, (T.setVm vm₁).calling g' mk As.toArray, t, U', L, hT, X', hL, e1, e2, hq, st⟩
  · dsimp only [Pt.U, Pt.locs, Pt.cells, Pt.slots] at X' e1 e2 h1 h2 h3 st hcl
    subst h1; subst h2; subst h3
    exact Or.inr ⟨q, (T.setVm vm₁).calling g' mk As.toArray, t, U', L, E, ce, hT, X', hL, e1, e2, hq, hce, hcv, vx_cls hW₁ hcl, st⟩
end
end VXH
theorem vx_ofWH {l : Launch} {y : MethodName} {ws ws' : List Cond} {rm : Room} {Pc : Array Value → State → Prop} {Qc : Array Value → State → Outcome → State → Prop} {XC : String → State → State → Prop} {mc ms : Nat} {free : Addr → Prop} {cc : ByteArray} {maxL : Nat} {ret : Option FieldType} {hh : List (Nat × Nat × Nat × Nat)}
    (hy : plainName y.cls = true) (hw : ws = Cond.codeWith y cc maxL ret hh :: ws')
    (body : ∀ p e s m args below meth c s₁, BodyLoose p l y (headSpec ws rm) cc maxL ret e s m args below meth c s₁ → c.maxLocals = maxL → Pc args s →
      W p l e (headSpec ws rm).room s m args below meth c s.heap [] 0 0 (vx_MQ below Qc XC args s mc ms free) (entryFrame m args maxL)) : vx_Met l y ws rm Pc Qc XC mc ms free := by
  refine MetFree.of_bodyS (code := cc) (maxLocals := maxL) (ret := ret) hy ?_ ?_
  · intro args s m h hn
    obtain ⟨m9, meth, c, hn9, h1, h2, h3, h4, -, h5, h6, -⟩ := Cond.codeWith_spec (atoms_spec (ws := ws) h _ (by rw [hw]; exact List.mem_cons_self))
    cases hn.symm.trans hn9
    exact ⟨meth, c, h1, h2, h3, h4, h5, h6⟩
  · intro p e s m args below meth c s₁ B hml hP _
    have hh0 : s₁.heap = s.heap := by rw [B.state]; rfl
    obtain ⟨t, a1, o, b1, b2, b3⟩ := body p e s m args below meth c s₁ B hml hP s₁ hh0 (Stand.of_body B)
    exact ⟨t, o, a1, b1, b2, b3⟩
/-! ===== END ===== -/
/-! ===== BEGIN what the machine throws by itself, no traces kept ===== -/
section VXM
set_option maxHeartbeats 1000000 in
/-- the machine throws cls with the message text, no traces kept: from its note over the frame g to 'throwing' over the same frame (follows the proofs of Stand.vmThrowsMessage, Shelf/KitTracedVmS.lean, and Stand.throwsMessageColdBareV, StandMessageColdV.lean, without the step out of the frame) -/
theorem vx_vmAt {p : Program} {l : Launch} {e : Env} {R : Room} {s : State} {m₀ : MethodId} {args : Array Value} {below : List Frame} {meth : Method} {c : Code} {W : State} {locs : List Loc} {cells slots : Nat}
    (X : Stand p l e R s m₀ args below meth c W locs cells slots) (hexec : p.tables.exec = Jvm.exec) (htr : e.platform.stackTraces = false) {cls : String} {names : List String} {text : String}
    (hcls : Bundle.fit cls = true) (hnames : ∀ n ∈ names, Bundle.fit n = true) (hsoe : (cls == "java/lang/StackOverflowError") = false) (hoom : (cls == "java/lang/OutOfMemoryError") = false)
    (h : ∀ a ∈ Bundle.messageArmAtoms cls names, a.before args s = true)
    (hlocs : ∀ x ∈ locs, ∀ cell, s.heap[x.base]? = some cell → cell.vm.isStatics = false)
    (htext : (text == notModelled) = false) (hlimit : ¬ (stringBytes (stringToUtf16 text)).size > e.platform.arrayLengthLimit) (hheap : ¬ (stringBytes (stringToUtf16 text)).size * componentBytes .byte > e.platform.maxHeapBytes)
    {g : JFrame} (hg : g.method = m₀) (hsize : g.locals.size = c.maxLocals)
    (hRframes : names.length + 4 < R.frames) (hRlocals : 2 * g.monitorRoom + (g.stack.map fun v => v.category).sum + 10240 ≤ R.locals) (hshort : 13 * names.length + 55 ≤ 10240)
    (hRcells : cells + 3 ≤ R.cells) (hRslots : slots + ((stringBytes (stringToUtf16 text)).size + 4 + 6) ≤ R.slots) (hlocks : meth.locks = false) :
    ∃ (S : State) (q : Addr) (ce : Cell), (∀ target, Steps p.tables e below ((S.setTop g).pushFrame (.throwing q)) target → Steps p.tables e below ((W.setTop g).pushFrame (.throwNew cls (some text) none)) target) ∧
      Stand p l e R s m₀ args below meth c S locs (cells + 3) (slots + ((stringBytes (stringToUtf16 text)).size + 4 + 6)) ∧ S.heap[q]? = some ce ∧ s.vm.findClass cls = some ce.cls ∧ ce.vm = .none := by
  have howns : e.platform.frameOwnsMonitors = true := by rw [X.admits.platform]
  have hfin : e.platform.finalization = false := by rw [X.admits.platform]
  have hpl : e.platform.magicAccessors = ({} : Platform).magicAccessors := by rw [X.admits.platform]
  have a : ∀ x, x ∈ Bundle.messageArmAtoms cls names → x.holds args s none s [] = true := fun x hx => h x hx
  obtain ⟨T, Z0, L, -, Y⟩ := ThrowableC.of_atoms (args := args) howns hfin hpl (fun x hx => h x (by simp [Bundle.messageArmAtoms, hx]))
  obtain ⟨Z, M, LZ, LM, hnZ⟩ := Init0T.ofS_atoms (args := args) hpl L Y (fun x hx => h x (by simp [Bundle.messageArmAtoms, hx]))
  obtain ⟨P1, Ps, hlen, L1, hL, hP1m, hlink1, hlink⟩ := Bundle.chainS (args := args) hpl hnZ names cls hcls hnames (fun x hx => h x (by simp [Bundle.messageArmAtoms, hx]))
  obtain ⟨Zs, LZs, hn4, hfitv, hfitc⟩ := StringT.of_atoms (args := args) (fun x hx => h x (by simp [Bundle.messageArmAtoms, hx]))
  have hfound : s.vm.findClass cls = some P1.m.cls := findClass_of_methodNamed hP1m
  obtain ⟨c1, kX, hc1, hk, hord, -, -, hn6⟩ := Cond.instantiable_spec (a (.instantiable cls 6) (by simp [Bundle.messageArmAtoms]))
  cases Option.some.inj (hc1.symm.trans hfound)
  have hinit := Cond.initialized_spec hfound hk (a (.initialized cls) (by simp [Bundle.messageArmAtoms]))
  have hctor : kX.findMethod "<init>" "(Ljava/lang/String;)V" = some P1.m.idx := findMethod_of_methodNamed hP1m hk
  have hsel0 : selectMethod e.platform s.vm P1.m.cls T.fill0 = .method T.fill0 := by
    obtain ⟨c2, r2, m2, q1, q2, q3, q4, -⟩ := Cond.selects_spec (a (.selects cls Bundle.tFill0 Bundle.tFill0) (by simp [Bundle.messageArmAtoms]))
    cases Option.some.inj (q1.symm.trans hfound)
    cases Option.some.inj (q2.symm.trans (State.methodFound?_of_named Y.fill0 (by decide)))
    cases Option.some.inj (q3.symm.trans Y.fill0)
    rw [Launch.admits_selectMethod X.admits]; exact q4
  have hselF : selectMethod e.platform s.vm P1.m.cls T.fill = .method T.fill := by
    obtain ⟨c2, r2, m2, q1, q2, q3, q4, -⟩ := Cond.selects_spec (a (.selects cls Bundle.tFill Bundle.tFill) (by simp [Bundle.messageArmAtoms]))
    cases Option.some.inj (q1.symm.trans hfound)
    cases Option.some.inj (q2.symm.trans (State.methodFound?_of_named Y.fill (by decide)))
    cases Option.some.inj (q3.symm.trans Y.fill)
    rw [Launch.admits_selectMethod X.admits]; exact q4
  obtain ⟨cellS0, hcS0, hiss⟩ := Y.statics
  obtain ⟨u0, hu0⟩ := Cond.staticRefV Y.unassigned L.unassignedStatic L.statics hcS0 hiss (a (.isRef (.static Bundle.tN "UNASSIGNED_STACK" Bundle.steD)) (by simp [Bundle.messageArmAtoms]))
  obtain ⟨sen, hsen⟩ := Cond.staticRefV Y.sentinel L.sentinelStatic L.statics hcS0 hiss (a (.isRef (.static Bundle.tN "SUPPRESSED_SENTINEL" Bundle.listD)) (by simp [Bundle.messageArmAtoms]))
  obtain ⟨ci198, i198, fB, hk198, hg198, ha198, hsB, -, hnB, htB, hffB⟩ := Cond.ownField (t := .object "java/lang/Object") Y.found L.cls (by decide +kernel) (a (.fieldLink Bundle.tN 198 Bundle.tN "backtrace" "Ljava/lang/Object;") (by simp [Bundle.messageArmAtoms])) (a (.lays Bundle.tN Bundle.tN "backtrace" "Ljava/lang/Object;") (by simp [Bundle.messageArmAtoms])) e.platform hpl
  obtain ⟨cellS, hcS', heS, -, hkeep⟩ := X.same.2.2.2.2.2 T.aS cellS0 hcS0
  have hcellS : W.heap[T.aS]? = some cellS := hcS'
  have hout' : ∀ i, (⟨T.aS, i⟩ : Loc) ∉ locs := fun i hmem => by
    have := hlocs _ hmem cellS0 hcS0
    rw [hiss] at this; cases this
  have hknownS : cellS.vm ≠ .unknown := by
    rw [heS]; intro hu
    rw [show cellS0.vm = .unknown from hu] at hiss
    cases hiss
  have hvU : cellS.slots[T.fUnassigned.slot]? = some u0.v := by rw [hkeep _ (hout' _)]; exact hu0
  have hvSen : cellS.slots[T.fSentinel.slot]? = some sen.v := by rw [hkeep _ (hout' _)]; exact hsen
  obtain ⟨iM, hffM⟩ := Y.msg
  obtain ⟨tyC, dC, hdC, hdnC⟩ := Cond.laysAt hfound hk Y.cause (a (.lays cls Bundle.tN "cause" "Ljava/lang/Throwable;") (by simp [Bundle.messageArmAtoms]))
  obtain ⟨tyS, dS, hdS, hdnS⟩ := Cond.laysAt hfound hk Y.stack (a (.lays cls Bundle.tN "stackTrace" Bundle.steD) (by simp [Bundle.messageArmAtoms]))
  obtain ⟨tyP, dP, hdP, hdnP⟩ := Cond.laysAt hfound hk Y.supp (a (.lays cls Bundle.tN "suppressedExceptions" Bundle.listD) (by simp [Bundle.messageArmAtoms]))
  obtain ⟨tyM, dM, hdM, hdnM⟩ := Cond.laysAt hfound hk hffM (a (.lays cls Bundle.tN "detailMessage" "Ljava/lang/String;") (by simp [Bundle.messageArmAtoms]))
  obtain ⟨tyB, dB, hdB, hdnB⟩ := Cond.laysAt hfound hk hffB (a (.lays cls Bundle.tN "backtrace" "Ljava/lang/Object;") (by simp [Bundle.messageArmAtoms]))
  have bC := Cond.laysApart hdB hdC hdnB hdnC (by rw [hnB, Y.causeName]; decide)
  have bS := Cond.laysApart hdB hdS hdnB hdnS (by rw [hnB, Y.stackName]; decide)
  have bP := Cond.laysApart hdB hdP hdnB hdnP (by rw [hnB, Y.suppName]; decide)
  have hbk : ((preparedCellV T.toThrowableT (freshCell P1.m.cls kX) (W.heap.size + 2) u0 sen).withEntry W.cur).slots[fB.slot]? = some .null := by
    have := fresh_default (c := P1.m.cls) tyB
    rw [htB] at this
    simpa [preparedCellV, Cell.setSlot, Cell.withEntry, Array.getElem?_setIfInBounds, bC, bS, bP, bC.symm, bS.symm, bP.symm, defaultValue] using this
  have tkC := Takes.of_laid (v := .ref (W.heap.size + 2)) hk hord tyC (by rw [Y.causeType]; rfl)
  have tkS := Takes.of_laid (v := u0.v) hk hord tyS (by rw [Y.stackType]; exact fits_refV_array _ u0)
  have tkP := Takes.of_laid (v := sen.v) hk hord tyP (by rw [Y.suppType]; exact fits_refV_object _ sen)
  have tkM := Takes.of_laid (v := .ref (W.heap.size + 1)) hk hord tyM (by rw [Y.msgType]; rfl)
  have hskip : SkipFacts T e.platform s (fun u => u) u0 ((preparedCellV T.toThrowableT (freshCell P1.m.cls kX) (W.heap.size + 2) u0 sen).withEntry W.cur) := ⟨{ ci198 := ci198, i198 := i198, fBack := fB }, ⟨hk198, hg198, ha198, hsB⟩, hbk, fun _ _ => rfl⟩
  have h0 : At W g.method c below := by rw [hg]; exact X.here
  obtain ⟨hbeyond, hfreeW⟩ := X.vmMayThrow hsize (.throwNew cls (some text) none) (fun f hf => by cases hf) rfl hRlocals
  have hfr' : W.frames.length + Ps.length + 4 < (e.platform.stackLimits W.me).1 := by have := X.framesAbove hRframes; omega
  have hwd' : (stackUse (.java g :: W.frames.tail)).2 + 13 * Ps.length + 55 ≤ (e.platform.stackLimits W.me).2 := by have := X.stackAbove hsize (K := 13 * Ps.length + 55) (by omega); omega
  have hslots : W.slotsUsed + (stringBytes (stringToUtf16 text)).size + Zs.kS.instanceTypes.size + kX.instanceTypes.size ≤ e.platform.maxSlots := by
    have := X.slotsAbove hRslots
    rw [hn4, hn6]
    omega
  obtain ⟨vm', hW', st⟩ := Steps.vmThrowsMessageColdByV p (s₀ := s) (S := W) (g := g) h0 hexec T L Z LZ M LM X.warmed (t := W.cur) rfl Zs LZs P1 L1 Ps hL hlink1 hlink hsoe hoom hfound hk hinit hord hctor
    (Launch.admits_hotImplicitExceptions X.admits) hbeyond hfreeW htext hlimit hheap (X.cellsAbove hRcells) hslots (hfitv _) (hfitc _)
    (Nn := fun u => u) heapOnly_id (fun _ _ => rfl) (fun _ => rfl) (fun u x y => setCell_twice _ _ _ _) (fun _ => Nat.le_refl _) (cN := ((preparedCellV T.toThrowableT (freshCell P1.m.cls kX) (W.heap.size + 2) u0 sen).withEntry W.cur))
    hsel0 hcellS hknownS hvU tkS (fun _ hu => hu) (fun _ hu => hu) rfl rfl rfl (by simp [preparedCellV, Cell.setSlot, Cell.withEntry]) hskip (fun _ _ hA hW _ hroom _ hrest => L.nativeOff p htr hA hW hroom hrest) hselF hvSen tkC tkP tkM Y.objLocals rfl hfr' hwd'
  rw [plainBareV_eq T.toThrowableT (W.heap.size + 2) u0 sen (.ref (W.heap.size + 1)) W.cur rfl rfl] at st
  obtain ⟨-, -, w3, w4, -, -, -⟩ := withThrown_facts e.platform W Zs text P1.m.cls kX
  have X3 := ((X.pushed (bytesOf Zs.cB (stringToUtf16 text))).pushed (stringAt Zs.cS Zs.kS Zs.fv Zs.fc (stringToUtf16 text) W.heap.size)).pushed (freshCell P1.m.cls kX)
  rw [← withString_eq] at X3
  have X4 := X3.noted hW'
  have ha : (W.heap.size + 2) < ((withThrown W Zs text P1.m.cls kX).setVm vm').heap.size := by show _ < (withThrown W Zs text P1.m.cls kX).heap.size; rw [w3]; omega
  have hcell : ((withThrown W Zs text P1.m.cls kX).setVm vm').heap[(W.heap.size + 2)]? = some (freshCell P1.m.cls kX) := w4
  have X5 := ((((X4.stored hcell T.fCause.slot (.ref (W.heap.size + 2))).storedAgain ha T.fStack.slot u0.v).storedAgain ha T.fSupp.slot sen.v).storedAgain ha T.fStack.slot u0.v).storedAgain ha T.fMsg.slot (.ref (W.heap.size + 1))
  obtain ⟨g₁, hfrM⟩ := X5.frames_eq
  have hU : ((((withThrown W Zs text P1.m.cls kX).setVm vm').setCell (W.heap.size + 2) (plainBareV T.toThrowableT (freshCell P1.m.cls kX) (W.heap.size + 2) u0 sen (.ref (W.heap.size + 1)))).setTop g).pushFrame (.throwing (W.heap.size + 2)) = (((withThrown W Zs text P1.m.cls kX).setVm vm').setCell (W.heap.size + 2) (plainBareV T.toThrowableT (freshCell P1.m.cls kX) (W.heap.size + 2) u0 sen (.ref (W.heap.size + 1)))).setFrames (.throwing (W.heap.size + 2) :: .java g :: below) := by
    rw [State.pushFrame, State.frames_setTop _ hfrM, State.setTop_of_frames _ hfrM, State.setFrames_setFrames]
  have b1 : (bytesOf Zs.cB (stringToUtf16 text)).slots.size = (stringBytes (stringToUtf16 text)).size := by
    rw [(Cell.writeAll_facts _ _).2.2]; simp [bytes0]
  have b2 : (stringAt Zs.cS Zs.kS Zs.fv Zs.fc (stringToUtf16 text) W.heap.size).slots.size = 4 := by simp [string0, Cell.setSlot, hn4]
  have b3 : (freshCell P1.m.cls kX).slots.size = 6 := by simp [hn6]
  rw [b1, b2, b3] at X5
  have e9 : slots + (stringBytes (stringToUtf16 text)).size + 4 + 6 = slots + ((stringBytes (stringToUtf16 text)).size + 4 + 6) := by omega
  rw [e9] at X5
  simp only [List.append_assoc, List.cons_append, List.nil_append] at X5
  refine ⟨((withThrown W Zs text P1.m.cls kX).setVm vm').setCell (W.heap.size + 2) (plainBareV T.toThrowableT (freshCell P1.m.cls kX) (W.heap.size + 2) u0 sen (.ref (W.heap.size + 1))), W.heap.size + 2, _, fun target ht => st _ (by rw [X.tail, ← hU]; exact ht),
    X5.forget (fun y hy => ?_), heapAt_setCell_self _ ha, hfound, rfl⟩
  simp only [List.mem_cons, List.not_mem_nil, or_false] at hy
  have hge : s.heap.size ≤ W.heap.size := X.same.2.1
  rcases hy with rfl | rfl | rfl | rfl | rfl <;> exact Nat.le_trans hge (Nat.le_add_right _ 2)
set_option maxHeartbeats 1000000 in
/-- the machine throws NullPointerException, no traces kept: from its note over the frame g to 'throwing' over the same frame (follows the proof of Stand.vmThrowsNpe, Shelf42/KT2.lean; throwsNpeColdBareVAt, Shelf42/NT91.lean, called) -/
theorem vx_npeAt {p : Program} {l : Launch} {e : Env} {R : Room} {s : State} {m₀ : MethodId} {args : Array Value} {below : List Frame} {meth : Method} {c : Code} {W : State} {locs : List Loc} {cells slots : Nat}
    (X : Stand p l e R s m₀ args below meth c W locs cells slots) (hexec : p.tables.exec = Jvm.exec) (htr : e.platform.stackTraces = false) {n : Nat}
    (h : ∀ a ∈ Bundle.npeArmAtoms n, a.before args s = true)
    (hlocs : ∀ x ∈ locs, ∀ cell, s.heap[x.base]? = some cell → cell.vm.isStatics = false)
    {g : JFrame} (hg : g.method = m₀) (hsize : g.locals.size = c.maxLocals)
    (hRframes : 7 < R.frames) (hRlocals : 2 * g.monitorRoom + (g.stack.map fun v => v.category).sum + 10240 ≤ R.locals)
    (hRcells : cells + 1 ≤ R.cells) (hRslots : slots + n ≤ R.slots) (hlocks : meth.locks = false) :
    ∃ (S : State) (q : Addr) (ce : Cell), (∀ target, Steps p.tables e below ((S.setTop g).pushFrame (.throwing q)) target → Steps p.tables e below ((W.setTop g).pushFrame (.throwNew "java/lang/NullPointerException" none none)) target) ∧
      Stand p l e R s m₀ args below meth c S locs (cells + 1) (slots + n) ∧ S.heap[q]? = some ce ∧ s.vm.findClass "java/lang/NullPointerException" = some ce.cls ∧ ce.vm = .none := by
  have howns : e.platform.frameOwnsMonitors = true := by rw [X.admits.platform]
  have hfin : e.platform.finalization = false := by rw [X.admits.platform]
  have hpl : e.platform.magicAccessors = ({} : Platform).magicAccessors := by rw [X.admits.platform]
  have hpl2 : e.platform.arrayCloneIsPublic = true := by rw [X.admits.platform]
  have a' : ∀ x, x ∈ Bundle.npeArmAtoms n → x.holds args s none s [] = true := fun x hx => h x hx
  obtain ⟨T, Z, L, LZ, Y⟩ := ThrowableC.of_atoms (args := args) howns hfin hpl (fun x hx => h x (by simp [Bundle.npeArmAtoms, hx]))
  obtain ⟨N, LN, hcN, hnNF, hordN, hffS⟩ := NpeC.of_atoms (args := args) hpl hpl2 L Y (fun x hx => h x (by simp [Bundle.npeArmAtoms, hx]))
  obtain ⟨P1, L1, hP1m, hP1s⟩ := PassC.of_atoms (args := args) (s := s) hpl (X := Bundle.nN) (Y := Bundle.rN) (by decide) (by decide) LibCode.NullPointerException.Init0.at_0 LibCode.NullPointerException.Init0.at_1 LibCode.NullPointerException.Init0.at_4 (fun x hx => h x (by simp [Bundle.npeArmAtoms, hx]))
  obtain ⟨PR, LR, hPRm, hPRs⟩ := PassC.of_atoms (args := args) (s := s) hpl (X := Bundle.rN) (Y := Bundle.eN) (by decide) (by decide) LibCode.RuntimeException.Init0.at_0 LibCode.RuntimeException.Init0.at_1 LibCode.RuntimeException.Init0.at_4 (fun x hx => h x (by simp [Bundle.npeArmAtoms, hx]))
  obtain ⟨PE, LEx, hPEm, hPEs⟩ := PassC.of_atoms (args := args) (s := s) hpl (X := Bundle.eN) (Y := Bundle.tN) (by decide) (by decide) LibCode.Exception.Init0.at_0 LibCode.Exception.Init0.at_1 LibCode.Exception.Init0.at_4 (fun x hx => h x (by simp [Bundle.npeArmAtoms, hx]))
  have hfound : s.vm.findClass Bundle.nN = some P1.m.cls := findClass_of_methodNamed hP1m
  have ecls : N.cN = P1.m.cls := Option.some.inj (hcN.symm.trans hfound)
  have hk : s.vm.classes[P1.m.cls]? = some N.kN := by rw [← ecls]; exact LN.cls
  have hinit := Cond.initialized_spec hfound hk (a' (.initialized Bundle.nN) (by simp [Bundle.npeArmAtoms]))
  have hctor : N.kN.findMethod "<init>" "()V" = some P1.m.idx := findMethod_of_methodNamed hP1m hk
  obtain ⟨c1, k1, hc1, hk1, -, -, -, hn⟩ := Cond.instantiable_spec (a' (.instantiable Bundle.nN n) (by simp [Bundle.npeArmAtoms]))
  cases Option.some.inj (hc1.symm.trans hfound)
  cases Option.some.inj (hk1.symm.trans hk)
  have hfsz : (freshCell P1.m.cls N.kN).slots.size = n := by simp [hn]
  have hlink1 : P1.sup = PR.m := Option.some.inj (hP1s.symm.trans hPRm)
  have hlinkR : PR.sup = PE.m := Option.some.inj (hPRs.symm.trans hPEm)
  have hlinkE : PE.sup = Z.m T.toThrowableT := Option.some.inj (hPEs.symm.trans Y.init0)
  have hLs : ∀ P, P ∈ [PR, PE] → P.Links0 e.platform s := fun P hP => by
    simp only [List.mem_cons, List.not_mem_nil, or_false] at hP
    rcases hP with rfl | rfl
    · exact LR
    · exact LEx
  have hsel0 : selectMethod e.platform s.vm P1.m.cls T.fill0 = .method T.fill0 := by
    obtain ⟨c2, r2, m2, q1, q2, q3, q4, -⟩ := Cond.selects_spec (a' (.selects Bundle.nN Bundle.tFill0 Bundle.tFill0) (by simp [Bundle.npeArmAtoms]))
    cases Option.some.inj (q1.symm.trans hfound)
    cases Option.some.inj (q2.symm.trans (State.methodFound?_of_named Y.fill0 (by decide)))
    cases Option.some.inj (q3.symm.trans Y.fill0)
    rw [Launch.admits_selectMethod X.admits]; exact q4
  have hselF : selectMethod e.platform s.vm P1.m.cls T.fill = .method N.fill := by
    obtain ⟨c2, r2, m2, q1, q2, q3, q4, -⟩ := Cond.selects_spec (a' (.selects Bundle.nN Bundle.tFill Bundle.nFill) (by simp [Bundle.npeArmAtoms]))
    cases Option.some.inj (q1.symm.trans hfound)
    cases Option.some.inj (q2.symm.trans (State.methodFound?_of_named Y.fill (by decide)))
    cases Option.some.inj (q3.symm.trans hnNF)
    rw [Launch.admits_selectMethod X.admits]; exact q4
  obtain ⟨cellS0, hcS0, hiss⟩ := Y.statics
  obtain ⟨u0, hu0⟩ := Cond.staticRefV Y.unassigned L.unassignedStatic L.statics hcS0 hiss (a' (.isRef (.static Bundle.tN "UNASSIGNED_STACK" Bundle.steD)) (by simp [Bundle.npeArmAtoms]))
  obtain ⟨sen, hsen⟩ := Cond.staticRefV Y.sentinel L.sentinelStatic L.statics hcS0 hiss (a' (.isRef (.static Bundle.tN "SUPPRESSED_SENTINEL" Bundle.listD)) (by simp [Bundle.npeArmAtoms]))
  obtain ⟨ci198, i198, fB, hk198, hg198, ha198, hsB, -, hnB, htB, hffB⟩ := Cond.ownField (t := .object "java/lang/Object") Y.found L.cls (by decide +kernel) (a' (.fieldLink Bundle.tN 198 Bundle.tN "backtrace" Bundle.objD) (by simp [Bundle.npeArmAtoms])) (a' (.lays Bundle.tN Bundle.tN "backtrace" Bundle.objD) (by simp [Bundle.npeArmAtoms])) e.platform hpl
  obtain ⟨cellS, hcS', heS, -, hkeep⟩ := X.same.2.2.2.2.2 T.aS cellS0 hcS0
  have hcellS : W.heap[T.aS]? = some cellS := hcS'
  have hout' : ∀ i, (⟨T.aS, i⟩ : Loc) ∉ locs := fun i hmem => by
    have := hlocs _ hmem cellS0 hcS0
    rw [hiss] at this; cases this
  have hknownS : cellS.vm ≠ .unknown := by
    rw [heS]; intro hu
    rw [show cellS0.vm = .unknown from hu] at hiss
    cases hiss
  have hvU : cellS.slots[T.fUnassigned.slot]? = some u0.v := by rw [hkeep _ (hout' _)]; exact hu0
  have hvSen : cellS.slots[T.fSentinel.slot]? = some sen.v := by rw [hkeep _ (hout' _)]; exact hsen
  obtain ⟨tyC, dC, hdC, hdnC⟩ := Cond.laysAt hfound hk Y.cause (a' (.lays Bundle.nN Bundle.tN "cause" "Ljava/lang/Throwable;") (by simp [Bundle.npeArmAtoms]))
  obtain ⟨tyS, dS, hdS, hdnS⟩ := Cond.laysAt hfound hk Y.stack (a' (.lays Bundle.nN Bundle.tN "stackTrace" Bundle.steD) (by simp [Bundle.npeArmAtoms]))
  obtain ⟨tyP, dP, hdP, hdnP⟩ := Cond.laysAt hfound hk Y.supp (a' (.lays Bundle.nN Bundle.tN "suppressedExceptions" Bundle.listD) (by simp [Bundle.npeArmAtoms]))
  obtain ⟨tyX, dX, hdX, hdnX⟩ := Cond.laysAt hfound hk hffS (a' (.lays Bundle.nN Bundle.nN "extendedMessageState" "I") (by simp [Bundle.npeArmAtoms, Bundle.npeAtoms]))
  obtain ⟨hnX, htX⟩ := State.fieldFound?_type hffS (t := .int) (by decide +kernel)
  have xC := Cond.laysApart hdC hdX hdnC hdnX (by rw [hnX, Y.causeName]; decide)
  have xS := Cond.laysApart hdS hdX hdnS hdnX (by rw [hnX, Y.stackName]; decide)
  have xP := Cond.laysApart hdP hdX hdnP hdnX (by rw [hnX, Y.suppName]; decide)
  have hv0 : (freshCell P1.m.cls N.kN).slots[N.fState.slot]? = some (.int 0) := by
    have := fresh_default (c := P1.m.cls) tyX
    rw [htX] at this; exact this
  obtain ⟨tyB, dB, hdB, hdnB⟩ := Cond.laysAt hfound hk hffB (a' (.lays Bundle.nN Bundle.tN "backtrace" Bundle.objD) (by simp [Bundle.npeArmAtoms]))
  have bC := Cond.laysApart hdB hdC hdnB hdnC (by rw [hnB, Y.causeName]; decide)
  have bS := Cond.laysApart hdB hdS hdnB hdnS (by rw [hnB, Y.stackName]; decide)
  have bP := Cond.laysApart hdB hdP hdnB hdnP (by rw [hnB, Y.suppName]; decide)
  have bX := Cond.laysApart hdB hdX hdnB hdnX (by rw [hnB, hnX]; decide)
  have hbk : ((npeCell N.toNpeT (preparedCellV T.toThrowableT (freshCell P1.m.cls N.kN) W.heap.size u0 sen) W.cur).withEntry W.cur).slots[fB.slot]? = some .null := by
    have := fresh_default (c := P1.m.cls) tyB
    rw [htB] at this
    simpa [npeCell, preparedCellV, Cell.setSlot, Cell.withEntry, Array.getElem?_setIfInBounds, bC, bS, bP, bX, bC.symm, bS.symm, bP.symm, bX.symm, defaultValue] using this
  have tkC := Takes.of_laid (v := .ref W.heap.size) hk hordN tyC (by rw [Y.causeType]; rfl)
  have tkS := Takes.of_laid (v := u0.v) hk hordN tyS (by rw [Y.stackType]; exact fits_refV_array _ u0)
  have tkP := Takes.of_laid (v := sen.v) hk hordN tyP (by rw [Y.suppType]; exact fits_refV_object _ sen)
  have tkX := Takes.of_laid (v := .int 1) hk hordN tyX (by rw [htX]; rfl)
  have hskip : SkipFacts T e.platform s (fun u => u) u0 ((npeCell N.toNpeT (preparedCellV T.toThrowableT (freshCell P1.m.cls N.kN) W.heap.size u0 sen) W.cur).withEntry W.cur) := ⟨{ ci198 := ci198, i198 := i198, fBack := fB }, ⟨hk198, hg198, ha198, hsB⟩, hbk, fun _ _ => rfl⟩
  obtain ⟨vm', X3, st, -⟩ := X.throwsNpeColdBareVAt hexec hg hsize T L Z LZ N LN P1 L1 [PR, PE] hLs hlink1 ⟨hlinkR, hlinkE, trivial⟩ hfound hk hinit hordN hctor hsel0 hselF hcellS hknownS hvU hvSen
    hv0 xC xS xP tkC tkS tkP tkX Y.objLocals hskip (fun _ _ hA hW _ hroom _ hrest => L.nativeOff p htr hA hW hroom hrest) (by simpa using hRframes) hRlocals (by simp) hRcells (by rw [hn]; exact hRslots)
  have hlt : W.heap.size < ((W.pushCell (freshCell P1.m.cls N.kN)).setVm vm').heap.size := by
    show W.heap.size < (W.pushCell (freshCell P1.m.cls N.kN)).heap.size
    rw [State.heap_size_pushCell]; omega
  rw [hfsz] at X3
  obtain ⟨g₁, hfrM⟩ := X3.frames_eq
  have hU : ((((W.pushCell (freshCell P1.m.cls N.kN)).setVm vm').setCell W.heap.size (npeBareV T.toThrowableT N.toNpeT (freshCell P1.m.cls N.kN) W.heap.size u0 sen)).setTop g).pushFrame (.throwing W.heap.size) = (((W.pushCell (freshCell P1.m.cls N.kN)).setVm vm').setCell W.heap.size (npeBareV T.toThrowableT N.toNpeT (freshCell P1.m.cls N.kN) W.heap.size u0 sen)).setFrames (.throwing W.heap.size :: .java g :: below) := by
    rw [State.pushFrame, State.frames_setTop _ hfrM, State.setTop_of_frames _ hfrM, State.setFrames_setFrames]
  refine ⟨_, W.heap.size, _, fun target ht => st.trans (by rw [← hU]; exact ht), X3.forget (fun y hy => ?_), heapAt_setCell_self _ hlt, hfound, rfl⟩
  simp only [List.mem_cons, List.not_mem_nil, or_false] at hy
  have hge : s.heap.size ≤ W.heap.size := X.same.2.1
  rcases hy with rfl | rfl | rfl | rfl | rfl <;> exact hge
/-- the words of a machine's NullPointerException, but the four that speak of the heap -/
def vx_atN (n : Nat) : List Cond := (Bundle.npeArmAtoms n).filter vx_no
/-- the words of a machine's throw with a message, but the four that speak of the heap -/
def vx_atM (X : String) (names : List String) : List Cond := (Bundle.messageArmAtoms X names).filter vx_no
section
variable {p : Program} {l : Launch} {e : Env} {R : Room} {s : State} {m : MethodId} {args : Array Value} {below : List Frame} {meth : Method} {c : Code} {H : Heap} {locs : List Loc} {cells slots : Nat}
/-- a frame seen from a rebased start, seen from the first start again -/
theorem vx_back9 {T S : State} {R' : Room} {k n : Nat} (X : Stand p l e R s m args below meth c T locs cells slots) (Y : Stand p l e R' ((T.setVm s.vm).setFrames (.invoking m args :: below)) m args below meth c T [] 0 0) (Z : Stand p l e R' ((T.setVm s.vm).setFrames (.invoking m args :: below)) m args below meth c S [] k n) :
    Stand p l e R s m args below meth c S locs (cells + k) (slots + n) := by
  have hW0 : s.WarmedH ((T.setVm s.vm).setFrames (.invoking m args :: below)).vm := State.WarmedH.refl s
  refine { admits := X.admits, cas := X.cas, clock := X.clock, frames := X.frames, room := X.room, hears := X.hears, method := X.method, code := X.code, here := Z.here, tail := Z.tail, warmed := State.WarmedH.trans hW0 Z.warmed, limits := Z.limits.trans (Y.limits.symm.trans X.limits), bytes := Z.bytes.trans (Y.bytes.symm.trans X.bytes), same := ?_ }
  obtain ⟨e1, e2⟩ := Z.same
  rw [State.setFrames_setFrames] at e1
  have h2 : (T.setVm s.vm).sameButNew (S.setVm s.vm) [] k n := ⟨e1, e2⟩
  have h3 := X.same.trans h2
  rw [List.append_nil] at h3
  exact h3
/-- from the machine's note that E is thrown here with this text -/
def vx_Note (p : Program) (l : Launch) (e : Env) (R : Room) (s : State) (m : MethodId) (args : Array Value) (below : List Frame) (meth : Method) (c : Code) (H : Heap) (locs : List Loc) (cells slots : Nat) (Q : State → Prop) (g : JFrame) (E text : String) : Prop :=
  ∀ T : State, T.heap = H → Stand p l e R s m args below meth c T locs cells slots → ∃ t, Steps p.tables e below ((T.setTop g).pushFrame (.throwNew E (some text) none)) t ∧ Q t
theorem vx_vm {pc : Nat} {ls : Array Slot} {rest : List Value} {Q : State → Prop} (hexec : p.tables.exec = Jvm.exec) (hl : l.stackTraces = false) {cls text : String} {names : List String} {nb : Nat} {A : Nat → Prop}
    (hcls : Bundle.fit cls = true) (hnames : ∀ n ∈ names, Bundle.fit n = true) (hsoe : (cls == "java/lang/StackOverflowError") = false) (hoom : (cls == "java/lang/OutOfMemoryError") = false)
    (hat : ∀ w ∈ vx_atM cls names, w.before args s = true) (hgood : ∀ w ∈ vx_atM cls names, vx_ot w = true)
    (hU : vx_Zq Bundle.tN "UNASSIGNED_STACK" Bundle.steD A s s.heap) (hN : vx_Zq Bundle.tN "SUPPRESSED_SENTINEL" Bundle.listD A s s.heap) (hS : va_S A s.heap H locs) (hsize : ls.size = c.maxLocals)
    (htext : (text == notModelled) = false) (hnb : (stringBytes (stringToUtf16 text)).size ≤ nb) (hnb1 : nb ≤ 1000)
    (hRframes : names.length + 4 < R.frames) (hRlocals : (rest.map fun v => v.category).sum + 10240 ≤ R.locals) (hshort : 13 * names.length + 55 ≤ 10240) (hRcells : cells + 3 ≤ R.cells) (hRslots : slots + (nb + 10) ≤ R.slots) (hlocks : meth.locks = false)
    (k : ∀ (H1 : Heap) (q9 : Addr) (ce : Cell), H.size ≤ H1.size → (∀ q : Nat, q < H.size → H1[q]? = H[q]?) → va_S A s.heap H1 locs → H1[q9]? = some ce → ce.vm = .none → s.vm.findClass cls = some ce.cls → vx_W p l e R s m args below meth c H1 locs (cells + 3) (slots + (nb + 10)) Q (F0 m pc ls rest) q9) :
    vx_Note p l e R s m args below meth c H locs cells slots Q (F0 m pc ls rest) cls text := by
  intro T hT X
  have htr : e.platform.stackTraces = false := (show e.platform.stackTraces = l.stackTraces by rw [X.admits.platform]).trans hl
  have Y := vx_rebase X (R' := { frames := R.frames, locals := R.locals, cells := 3, slots := nb + 10 }) (Nat.le_refl _) (Nat.le_refl _) hRcells hRslots
  have hhp : ((T.setVm s.vm).setFrames (.invoking m args :: below)).heap = H := hT
  have hW0 : s.WarmedH ((T.setVm s.vm).setFrames (.invoking m args :: below)).vm := State.WarmedH.refl s
  have hat' : ∀ w ∈ vx_atM cls names, w.before args ((T.setVm s.vm).setFrames (.invoking m args :: below)) = true := fun w hw => vx_ot_at hW0 rfl (hgood w hw) (hat w hw)
  have hU' : vx_Zq Bundle.tN "UNASSIGNED_STACK" Bundle.steD A ((T.setVm s.vm).setFrames (.invoking m args :: below)) ((T.setVm s.vm).setFrames (.invoking m args :: below)).heap := by rw [hhp]; exact vx_Zq.moved hW0.alike (hU.kept hS.2.1)
  have hN' : vx_Zq Bundle.tN "SUPPRESSED_SENTINEL" Bundle.listD A ((T.setVm s.vm).setFrames (.invoking m args :: below)) ((T.setVm s.vm).setFrames (.invoking m args :: below)).heap := by rw [hhp]; exact vx_Zq.moved hW0.alike (hN.kept hS.2.1)
  obtain ⟨S, q, ce, st, Z, hce, hcl', hv⟩ := vx_vmAt Y hexec htr (cls := cls) (names := names) (text := text) hcls hnames hsoe hoom (vx_own hat' (vx_isRefq hU'.1) (vx_isRefq hN'.1) hU'.2.word hN'.2.word) (fun x hx => nomatch hx) htext
    (by rw [Launch.admits_arrayLengthLimit X.admits]; omega) (by rw [Launch.admits_maxHeapBytes X.admits]; simp only [componentBytes]; omega)
    (g := F0 m pc ls rest) rfl hsize hRframes (by show 2 * 0 + (rest.map fun v => v.category).sum + 10240 ≤ R.locals; omega) hshort (by show 0 + 3 ≤ 3; omega) (by show 0 + (_ + 4 + 6) ≤ nb + 10; omega) hlocks
  obtain ⟨f1, f2⟩ := vx_frame Z.same
  have f1' : H.size ≤ S.heap.size := by rw [← hT]; exact f1
  have f2' : ∀ q : Nat, q < H.size → S.heap[q]? = H[q]? := fun q hq => by
    rw [← hT]
    exact f2 q (by rw [← hT] at hq; exact hq) (fun z hz => nomatch hz)
  have X5 := vx_back9 X Y Z
  have X6 : Stand p l e R s m args below meth c S locs (cells + 3) (slots + (nb + 10)) := { X5 with same := X5.same.mono (by omega) (by omega) }
  obtain ⟨t, a1, b1⟩ := k S.heap q ce f1' f2' ⟨Nat.le_trans hS.1 f1', fun q h1 h2 => (f2' q (Nat.lt_of_lt_of_le h1 hS.1)).trans (hS.2.1 q h1 h2), hS.2.2⟩ hce hv hcl' S rfl X6
  exact ⟨t, st t a1, b1⟩
/-- from the machine's note that NullPointerException is thrown here -/
def vx_NoteN (p : Program) (l : Launch) (e : Env) (R : Room) (s : State) (m : MethodId) (args : Array Value) (below : List Frame) (meth : Method) (c : Code) (H : Heap) (locs : List Loc) (cells slots : Nat) (Q : State → Prop) (g : JFrame) : Prop :=
  ∀ T : State, T.heap = H → Stand p l e R s m args below meth c T locs cells slots → ∃ t, Steps p.tables e below ((T.setTop g).pushFrame (.throwNew "java/lang/NullPointerException" none none)) t ∧ Q t
theorem vx_npe {pc : Nat} {ls : Array Slot} {rest : List Value} {Q : State → Prop} (hexec : p.tables.exec = Jvm.exec) (hl : l.stackTraces = false) {nb : Nat} {A : Nat → Prop}
    (hat : ∀ w ∈ vx_atN nb, w.before args s = true) (hgood : ∀ w ∈ vx_atN nb, vx_ot w = true)
    (hU : vx_Zq Bundle.tN "UNASSIGNED_STACK" Bundle.steD A s s.heap) (hN : vx_Zq Bundle.tN "SUPPRESSED_SENTINEL" Bundle.listD A s s.heap) (hS : va_S A s.heap H locs) (hsize : ls.size = c.maxLocals)
    (hRframes : 7 < R.frames) (hRlocals : (rest.map fun v => v.category).sum + 10240 ≤ R.locals) (hRcells : cells + 1 ≤ R.cells) (hRslots : slots + nb ≤ R.slots) (hlocks : meth.locks = false)
    (k : ∀ (H1 : Heap) (q9 : Addr) (ce : Cell), H.size ≤ H1.size → (∀ q : Nat, q < H.size → H1[q]? = H[q]?) → va_S A s.heap H1 locs → H1[q9]? = some ce → ce.vm = .none → s.vm.findClass "java/lang/NullPointerException" = some ce.cls → vx_W p l e R s m args below meth c H1 locs (cells + 1) (slots + nb) Q (F0 m pc ls rest) q9) :
    vx_NoteN p l e R s m args below meth c H locs cells slots Q (F0 m pc ls rest) := by
  intro T hT X
  have htr : e.platform.stackTraces = false := (show e.platform.stackTraces = l.stackTraces by rw [X.admits.platform]).trans hl
  have Y := vx_rebase X (R' := { frames := R.frames, locals := R.locals, cells := 1, slots := nb }) (Nat.le_refl _) (Nat.le_refl _) hRcells hRslots
  have hhp : ((T.setVm s.vm).setFrames (.invoking m args :: below)).heap = H := hT
  have hW0 : s.WarmedH ((T.setVm s.vm).setFrames (.invoking m args :: below)).vm := State.WarmedH.refl s
  have hat' : ∀ w ∈ vx_atN nb, w.before args ((T.setVm s.vm).setFrames (.invoking m args :: below)) = true := fun w hw => vx_ot_at hW0 rfl (hgood w hw) (hat w hw)
  have hU' : vx_Zq Bundle.tN "UNASSIGNED_STACK" Bundle.steD A ((T.setVm s.vm).setFrames (.invoking m args :: below)) ((T.setVm s.vm).setFrames (.invoking m args :: below)).heap := by rw [hhp]; exact vx_Zq.moved hW0.alike (hU.kept hS.2.1)
  have hN' : vx_Zq Bundle.tN "SUPPRESSED_SENTINEL" Bundle.listD A ((T.setVm s.vm).setFrames (.invoking m args :: below)) ((T.setVm s.vm).setFrames (.invoking m args :: below)).heap := by rw [hhp]; exact vx_Zq.moved hW0.alike (hN.kept hS.2.1)
  obtain ⟨S, q, ce, st, Z, hce, hcl', hv⟩ := vx_npeAt Y hexec htr (n := nb) (vx_own hat' (vx_isRefq hU'.1) (vx_isRefq hN'.1) hU'.2.word hN'.2.word) (fun x hx => nomatch hx)
    (g := F0 m pc ls rest) rfl hsize hRframes (by show 2 * 0 + (rest.map fun v => v.category).sum + 10240 ≤ R.locals; omega) (by show 0 + 1 ≤ 1; omega) (by show 0 + nb ≤ nb; omega) hlocks
  obtain ⟨f1, f2⟩ := vx_frame Z.same
  have f1' : H.size ≤ S.heap.size := by rw [← hT]; exact f1
  have f2' : ∀ q : Nat, q < H.size → S.heap[q]? = H[q]? := fun q hq => by
    rw [← hT]
    exact f2 q (by rw [← hT] at hq; exact hq) (fun z hz => nomatch hz)
  have X5 := vx_back9 X Y Z
  have X6 : Stand p l e R s m args below meth c S locs (cells + 1) (slots + nb) := { X5 with same := X5.same.mono (by omega) (by omega) }
  obtain ⟨t, a1, b1⟩ := k S.heap q ce f1' f2' ⟨Nat.le_trans hS.1 f1', fun q h1 h2 => (f2' q (Nat.lt_of_lt_of_le h1 hS.1)).trans (hS.2.1 q h1 h2), hS.2.2⟩ hce hv hcl' S rfl X6
  exact ⟨t, st t a1, b1⟩
variable {Q : State → Prop} {cc : ByteArray} {pc : Nat} {ls : Array Slot} {rest : List Value}
theorem vx_idivZ (hexec : p.tables.exec = Jvm.exec) (hb : c.code = cc) {a b : Int32} (h0 : b = 0) (d : decode cc pc = .ok (.idiv, 1)) (k : vx_Note p l e R s m args below meth c H locs cells slots Q (F0 m pc ls rest) "java/lang/ArithmeticException" "/ by zero") :
    W p l e R s m args below meth c H locs cells slots Q (F0 m pc ls (.int b :: .int a :: rest)) := by
  intro T hT X
  obtain ⟨t, st, q⟩ := k T hT X
  exact ⟨t, X.idivZero hexec (g := F0 m pc ls (.int b :: .int a :: rest)) rfl (a := a) (rest := rest) (by rw [h0]) (by rw [hb]; exact d) t st, q⟩
theorem vx_iremZ (hexec : p.tables.exec = Jvm.exec) (hb : c.code = cc) {a b : Int32} (h0 : b = 0) (d : decode cc pc = .ok (.irem, 1)) (k : vx_Note p l e R s m args below meth c H locs cells slots Q (F0 m pc ls rest) "java/lang/ArithmeticException" "/ by zero") :
    W p l e R s m args below meth c H locs cells slots Q (F0 m pc ls (.int b :: .int a :: rest)) := by
  intro T hT X
  obtain ⟨t, st, q⟩ := k T hT X
  exact ⟨t, X.iremZero hexec (g := F0 m pc ls (.int b :: .int a :: rest)) rfl (a := a) (rest := rest) (by rw [h0]) (by rw [hb]; exact d) t st, q⟩
theorem vx_ldivZ (hexec : p.tables.exec = Jvm.exec) (hb : c.code = cc) {a b : Int64} (h0 : b = 0) (d : decode cc pc = .ok (.ldiv, 1)) (k : vx_Note p l e R s m args below meth c H locs cells slots Q (F0 m pc ls rest) "java/lang/ArithmeticException" "/ by zero") :
    W p l e R s m args below meth c H locs cells slots Q (F0 m pc ls (.long b :: .long a :: rest)) := by
  intro T hT X
  obtain ⟨t, st, q⟩ := k T hT X
  exact ⟨t, X.ldivZero hexec (g := F0 m pc ls (.long b :: .long a :: rest)) rfl (a := a) (rest := rest) (by rw [h0]) (by rw [hb]; exact d) t st, q⟩
theorem vx_lremZ (hexec : p.tables.exec = Jvm.exec) (hb : c.code = cc) {a b : Int64} (h0 : b = 0) (d : decode cc pc = .ok (.lrem, 1)) (k : vx_Note p l e R s m args below meth c H locs cells slots Q (F0 m pc ls rest) "java/lang/ArithmeticException" "/ by zero") :
    W p l e R s m args below meth c H locs cells slots Q (F0 m pc ls (.long b :: .long a :: rest)) := by
  intro T hT X
  obtain ⟨t, st, q⟩ := k T hT X
  exact ⟨t, X.lremZero hexec (g := F0 m pc ls (.long b :: .long a :: rest)) rfl (a := a) (rest := rest) (by rw [h0]) (by rw [hb]; exact d) t st, q⟩
theorem vx_ialdZ {D : va_G} {cl : List vw_C} {ws : va_W} {tys : List (ClassId × FieldType)} {a : Nat} (hexec : p.tables.exec = Jvm.exec) (hb : c.code = cc) (hK : va_K D cl tys s) (hP : va_P D cl ws H) (q0 t0 : Nat) {cA : ClassId} {n : Nat} {f : Nat → Int32} (ha : ws[q0]? = some (a, .inl (cA, n, .inl f))) (ht : tys[t0]? = some (cA, .int)) {i : Int32} (hout : ¬ vp_in i n) (hdg : decode cc pc = .ok (.iaload, 1))
    (k : ∀ tx : String, tx = (toString "Index " ++ toString i ++ toString " out of bounds for length " ++ toString n : String) → vx_Note p l e R s m args below meth c H locs cells slots Q (F0 m pc ls rest) "java/lang/ArrayIndexOutOfBoundsException" tx) : W p l e R s m args below meth c H locs cells slots Q (F0 m pc ls (.int i :: .ref a :: rest)) := by
  intro T hT X
  obtain ⟨t, st, q⟩ := k _ rfl T hT X
  refine ⟨t, ?_, q⟩
  have h1 := X.ialoadOut hexec (by rw [hT]; exact hP q0 _ ha) ((hK.2 t0 _ ht).1 n (fun j => .int (f j))) (j := i) (by show (i < 0 ∨ (arrV _ _ _).slots.size ≤ _); rw [arrV_size]; exact Classical.byContradiction hout) (g := F0 m pc ls (.int i :: .ref a :: rest)) rfl (rest := rest) rfl (by rw [hb]; exact hdg) t
  simp only [arrV_size] at h1
  exact h1 st
theorem vx_iastZ {D : va_G} {cl : List vw_C} {ws : va_W} {tys : List (ClassId × FieldType)} {a : Nat} (hexec : p.tables.exec = Jvm.exec) (hb : c.code = cc) (hK : va_K D cl tys s) (hP : va_P D cl ws H) (q0 t0 : Nat) {cA : ClassId} {n : Nat} {f : Nat → Int32} (ha : ws[q0]? = some (a, .inl (cA, n, .inl f))) (ht : tys[t0]? = some (cA, .int)) {i : Int32} {x : Int32} (hout : ¬ vp_in i n) (hdg : decode cc pc = .ok (.iastore, 1))
    (k : ∀ tx : String, tx = (toString "Index " ++ toString i ++ toString " out of bounds for length " ++ toString n : String) → vx_Note p l e R s m args below meth c H locs cells slots Q (F0 m pc ls rest) "java/lang/ArrayIndexOutOfBoundsException" tx) : W p l e R s m args below meth c H locs cells slots Q (F0 m pc ls (.int x :: .int i :: .ref a :: rest)) := by
  intro T hT X
  obtain ⟨t, st, q⟩ := k _ rfl T hT X
  refine ⟨t, ?_, q⟩
  have h1 := X.iastoreOut hexec (by rw [hT]; exact hP q0 _ ha) ((hK.2 t0 _ ht).1 n (fun j => .int (f j))) (j := i) (by show (i < 0 ∨ (arrV _ _ _).slots.size ≤ _); rw [arrV_size]; exact Classical.byContradiction hout) (g := F0 m pc ls (.int x :: .int i :: .ref a :: rest)) rfl (rest := rest) rfl (by rw [hb]; exact hdg) t
  simp only [arrV_size] at h1
  exact h1 st
theorem vx_baldZ {D : va_G} {cl : List vw_C} {ws : va_W} {tys : List (ClassId × FieldType)} {a : Nat} (hexec : p.tables.exec = Jvm.exec) (hb : c.code = cc) (hK : va_K D cl tys s) (hP : va_P D cl ws H) (q0 t0 : Nat) {cA : ClassId} {n : Nat} {f : Nat → Int32} (ha : ws[q0]? = some (a, .inl (cA, n, .inl f))) (ht : tys[t0]? = some (cA, .byte)) {i : Int32} (hout : ¬ vp_in i n) (hdg : decode cc pc = .ok (.baload, 1))
    (k : ∀ tx : String, tx = (toString "Index " ++ toString i ++ toString " out of bounds for length " ++ toString n : String) → vx_Note p l e R s m args below meth c H locs cells slots Q (F0 m pc ls rest) "java/lang/ArrayIndexOutOfBoundsException" tx) : W p l e R s m args below meth c H locs cells slots Q (F0 m pc ls (.int i :: .ref a :: rest)) := by
  intro T hT X
  obtain ⟨t, st, q⟩ := k _ rfl T hT X
  refine ⟨t, ?_, q⟩
  have h1 := X.baloadOut hexec (by rw [hT]; exact hP q0 _ ha) ((hK.2 t0 _ ht).1 n (fun j => .int (f j))) (j := i) (by show (i < 0 ∨ (arrV _ _ _).slots.size ≤ _); rw [arrV_size]; exact Classical.byContradiction hout) (g := F0 m pc ls (.int i :: .ref a :: rest)) rfl (rest := rest) rfl (by rw [hb]; exact hdg) t
  simp only [arrV_size] at h1
  exact h1 st
theorem vx_bastZ {D : va_G} {cl : List vw_C} {ws : va_W} {tys : List (ClassId × FieldType)} {a : Nat} (hexec : p.tables.exec = Jvm.exec) (hb : c.code = cc) (hK : va_K D cl tys s) (hP : va_P D cl ws H) (q0 t0 : Nat) {cA : ClassId} {n : Nat} {f : Nat → Int32} (ha : ws[q0]? = some (a, .inl (cA, n, .inl f))) (ht : tys[t0]? = some (cA, .byte)) {i : Int32} {x : Int32} (hout : ¬ vp_in i n) (hdg : decode cc pc = .ok (.bastore, 1))
    (k : ∀ tx : String, tx = (toString "Index " ++ toString i ++ toString " out of bounds for length " ++ toString n : String) → vx_Note p l e R s m args below meth c H locs cells slots Q (F0 m pc ls rest) "java/lang/ArrayIndexOutOfBoundsException" tx) : W p l e R s m args below meth c H locs cells slots Q (F0 m pc ls (.int x :: .int i :: .ref a :: rest)) := by
  intro T hT X
  obtain ⟨t, st, q⟩ := k _ rfl T hT X
  refine ⟨t, ?_, q⟩
  have h1 := X.bastoreOut hexec (by rw [hT]; exact hP q0 _ ha) ((hK.2 t0 _ ht).1 n (fun j => .int (f j))) (j := i) (by show (i < 0 ∨ (arrV _ _ _).slots.size ≤ _); rw [arrV_size]; exact Classical.byContradiction hout) (g := F0 m pc ls (.int x :: .int i :: .ref a :: rest)) rfl (rest := rest) rfl (by rw [hb]; exact hdg) t
  simp only [arrV_size] at h1
  exact h1 st
theorem vx_zaldZ {D : va_G} {cl : List vw_C} {ws : va_W} {tys : List (ClassId × FieldType)} {a : Nat} (hexec : p.tables.exec = Jvm.exec) (hb : c.code = cc) (hK : va_K D cl tys s) (hP : va_P D cl ws H) (q0 t0 : Nat) {cA : ClassId} {n : Nat} {f : Nat → Int32} (ha : ws[q0]? = some (a, .inl (cA, n, .inl f))) (ht : tys[t0]? = some (cA, .boolean)) {i : Int32} (hout : ¬ vp_in i n) (hdg : decode cc pc = .ok (.baload, 1))
    (k : ∀ tx : String, tx = (toString "Index " ++ toString i ++ toString " out of bounds for length " ++ toString n : String) → vx_Note p l e R s m args below meth c H locs cells slots Q (F0 m pc ls rest) "java/lang/ArrayIndexOutOfBoundsException" tx) : W p l e R s m args below meth c H locs cells slots Q (F0 m pc ls (.int i :: .ref a :: rest)) := by
  intro T hT X
  obtain ⟨t, st, q⟩ := k _ rfl T hT X
  refine ⟨t, ?_, q⟩
  have h1 := X.baloadOut hexec (by rw [hT]; exact hP q0 _ ha) ((hK.2 t0 _ ht).1 n (fun j => .int (f j))) (j := i) (by show (i < 0 ∨ (arrV _ _ _).slots.size ≤ _); rw [arrV_size]; exact Classical.byContradiction hout) (g := F0 m pc ls (.int i :: .ref a :: rest)) rfl (rest := rest) rfl (by rw [hb]; exact hdg) t
  simp only [arrV_size] at h1
  exact h1 st
theorem vx_zastZ {D : va_G} {cl : List vw_C} {ws : va_W} {tys : List (ClassId × FieldType)} {a : Nat} (hexec : p.tables.exec = Jvm.exec) (hb : c.code = cc) (hK : va_K D cl tys s) (hP : va_P D cl ws H) (q0 t0 : Nat) {cA : ClassId} {n : Nat} {f : Nat → Int32} (ha : ws[q0]? = some (a, .inl (cA, n, .inl f))) (ht : tys[t0]? = some (cA, .boolean)) {i : Int32} {x : Int32} (hout : ¬ vp_in i n) (hdg : decode cc pc = .ok (.bastore, 1))
    (k : ∀ tx : String, tx = (toString "Index " ++ toString i ++ toString " out of bounds for length " ++ toString n : String) → vx_Note p l e R s m args below meth c H locs cells slots Q (F0 m pc ls rest) "java/lang/ArrayIndexOutOfBoundsException" tx) : W p l e R s m args below meth c H locs cells slots Q (F0 m pc ls (.int x :: .int i :: .ref a :: rest)) := by
  intro T hT X
  obtain ⟨t, st, q⟩ := k _ rfl T hT X
  refine ⟨t, ?_, q⟩
  have h1 := X.bastoreOut hexec (by rw [hT]; exact hP q0 _ ha) ((hK.2 t0 _ ht).1 n (fun j => .int (f j))) (j := i) (by show (i < 0 ∨ (arrV _ _ _).slots.size ≤ _); rw [arrV_size]; exact Classical.byContradiction hout) (g := F0 m pc ls (.int x :: .int i :: .ref a :: rest)) rfl (rest := rest) rfl (by rw [hb]; exact hdg) t
  simp only [arrV_size] at h1
  exact h1 st
theorem vx_caldZ {D : va_G} {cl : List vw_C} {ws : va_W} {tys : List (ClassId × FieldType)} {a : Nat} (hexec : p.tables.exec = Jvm.exec) (hb : c.code = cc) (hK : va_K D cl tys s) (hP : va_P D cl ws H) (q0 t0 : Nat) {cA : ClassId} {n : Nat} {f : Nat → Int32} (ha : ws[q0]? = some (a, .inl (cA, n, .inl f))) (ht : tys[t0]? = some (cA, .char)) {i : Int32} (hout : ¬ vp_in i n) (hdg : decode cc pc = .ok (.caload, 1))
    (k : ∀ tx : String, tx = (toString "Index " ++ toString i ++ toString " out of bounds for length " ++ toString n : String) → vx_Note p l e R s m args below meth c H locs cells slots Q (F0 m pc ls rest) "java/lang/ArrayIndexOutOfBoundsException" tx) : W p l e R s m args below meth c H locs cells slots Q (F0 m pc ls (.int i :: .ref a :: rest)) := by
  intro T hT X
  obtain ⟨t, st, q⟩ := k _ rfl T hT X
  refine ⟨t, ?_, q⟩
  have h1 := X.caloadOut hexec (by rw [hT]; exact hP q0 _ ha) ((hK.2 t0 _ ht).1 n (fun j => .int (f j))) (j := i) (by show (i < 0 ∨ (arrV _ _ _).slots.size ≤ _); rw [arrV_size]; exact Classical.byContradiction hout) (g := F0 m pc ls (.int i :: .ref a :: rest)) rfl (rest := rest) rfl (by rw [hb]; exact hdg) t
  simp only [arrV_size] at h1
  exact h1 st
theorem vx_castZ {D : va_G} {cl : List vw_C} {ws : va_W} {tys : List (ClassId × FieldType)} {a : Nat} (hexec : p.tables.exec = Jvm.exec) (hb : c.code = cc) (hK : va_K D cl tys s) (hP : va_P D cl ws H) (q0 t0 : Nat) {cA : ClassId} {n : Nat} {f : Nat → Int32} (ha : ws[q0]? = some (a, .inl (cA, n, .inl f))) (ht : tys[t0]? = some (cA, .char)) {i : Int32} {x : Int32} (hout : ¬ vp_in i n) (hdg : decode cc pc = .ok (.castore, 1))
    (k : ∀ tx : String, tx = (toString "Index " ++ toString i ++ toString " out of bounds for length " ++ toString n : String) → vx_Note p l e R s m args below meth c H locs cells slots Q (F0 m pc ls rest) "java/lang/ArrayIndexOutOfBoundsException" tx) : W p l e R s m args below meth c H locs cells slots Q (F0 m pc ls (.int x :: .int i :: .ref a :: rest)) := by
  intro T hT X
  obtain ⟨t, st, q⟩ := k _ rfl T hT X
  refine ⟨t, ?_, q⟩
  have h1 := X.castoreOut hexec (by rw [hT]; exact hP q0 _ ha) ((hK.2 t0 _ ht).1 n (fun j => .int (f j))) (j := i) (by show (i < 0 ∨ (arrV _ _ _).slots.size ≤ _); rw [arrV_size]; exact Classical.byContradiction hout) (g := F0 m pc ls (.int x :: .int i :: .ref a :: rest)) rfl (rest := rest) rfl (by rw [hb]; exact hdg) t
  simp only [arrV_size] at h1
  exact h1 st
theorem vx_saldZ {D : va_G} {cl : List vw_C} {ws : va_W} {tys : List (ClassId × FieldType)} {a : Nat} (hexec : p.tables.exec = Jvm.exec) (hb : c.code = cc) (hK : va_K D cl tys s) (hP : va_P D cl ws H) (q0 t0 : Nat) {cA : ClassId} {n : Nat} {f : Nat → Int32} (ha : ws[q0]? = some (a, .inl (cA, n, .inl f))) (ht : tys[t0]? = some (cA, .short)) {i : Int32} (hout : ¬ vp_in i n) (hdg : decode cc pc = .ok (.saload, 1))
    (k : ∀ tx : String, tx = (toString "Index " ++ toString i ++ toString " out of bounds for length " ++ toString n : String) → vx_Note p l e R s m args below meth c H locs cells slots Q (F0 m pc ls rest) "java/lang/ArrayIndexOutOfBoundsException" tx) : W p l e R s m args below meth c H locs cells slots Q (F0 m pc ls (.int i :: .ref a :: rest)) := by
  intro T hT X
  obtain ⟨t, st, q⟩ := k _ rfl T hT X
  refine ⟨t, ?_, q⟩
  have h1 := X.saloadOut hexec (by rw [hT]; exact hP q0 _ ha) ((hK.2 t0 _ ht).1 n (fun j => .int (f j))) (j := i) (by show (i < 0 ∨ (arrV _ _ _).slots.size ≤ _); rw [arrV_size]; exact Classical.byContradiction hout) (g := F0 m pc ls (.int i :: .ref a :: rest)) rfl (rest := rest) rfl (by rw [hb]; exact hdg) t
  simp only [arrV_size] at h1
  exact h1 st
theorem vx_sastZ {D : va_G} {cl : List vw_C} {ws : va_W} {tys : List (ClassId × FieldType)} {a : Nat} (hexec : p.tables.exec = Jvm.exec) (hb : c.code = cc) (hK : va_K D cl tys s) (hP : va_P D cl ws H) (q0 t0 : Nat) {cA : ClassId} {n : Nat} {f : Nat → Int32} (ha : ws[q0]? = some (a, .inl (cA, n, .inl f))) (ht : tys[t0]? = some (cA, .short)) {i : Int32} {x : Int32} (hout : ¬ vp_in i n) (hdg : decode cc pc = .ok (.sastore, 1))
    (k : ∀ tx : String, tx = (toString "Index " ++ toString i ++ toString " out of bounds for length " ++ toString n : String) → vx_Note p l e R s m args below meth c H locs cells slots Q (F0 m pc ls rest) "java/lang/ArrayIndexOutOfBoundsException" tx) : W p l e R s m args below meth c H locs cells slots Q (F0 m pc ls (.int x :: .int i :: .ref a :: rest)) := by
  intro T hT X
  obtain ⟨t, st, q⟩ := k _ rfl T hT X
  refine ⟨t, ?_, q⟩
  have h1 := X.sastoreOut hexec (by rw [hT]; exact hP q0 _ ha) ((hK.2 t0 _ ht).1 n (fun j => .int (f j))) (j := i) (by show (i < 0 ∨ (arrV _ _ _).slots.size ≤ _); rw [arrV_size]; exact Classical.byContradiction hout) (g := F0 m pc ls (.int x :: .int i :: .ref a :: rest)) rfl (rest := rest) rfl (by rw [hb]; exact hdg) t
  simp only [arrV_size] at h1
  exact h1 st
theorem vx_laldZ {D : va_G} {cl : List vw_C} {ws : va_W} {tys : List (ClassId × FieldType)} {a : Nat} (hexec : p.tables.exec = Jvm.exec) (hb : c.code = cc) (hK : va_K D cl tys s) (hP : va_P D cl ws H) (q0 t0 : Nat) {cA : ClassId} {n : Nat} {f : Nat → Int64} (ha : ws[q0]? = some (a, .inl (cA, n, .inr (.inl f)))) (ht : tys[t0]? = some (cA, .long)) {i : Int32} (hout : ¬ vp_in i n) (hdg : decode cc pc = .ok (.laload, 1))
    (k : ∀ tx : String, tx = (toString "Index " ++ toString i ++ toString " out of bounds for length " ++ toString n : String) → vx_Note p l e R s m args below meth c H locs cells slots Q (F0 m pc ls rest) "java/lang/ArrayIndexOutOfBoundsException" tx) : W p l e R s m args below meth c H locs cells slots Q (F0 m pc ls (.int i :: .ref a :: rest)) := by
  intro T hT X
  obtain ⟨t, st, q⟩ := k _ rfl T hT X
  refine ⟨t, ?_, q⟩
  have h1 := X.laloadOut hexec (by rw [hT]; exact hP q0 _ ha) ((hK.2 t0 _ ht).1 n (fun j => .long (f j))) (j := i) (by show (i < 0 ∨ (arrV _ _ _).slots.size ≤ _); rw [arrV_size]; exact Classical.byContradiction hout) (g := F0 m pc ls (.int i :: .ref a :: rest)) rfl (rest := rest) rfl (by rw [hb]; exact hdg) t
  simp only [arrV_size] at h1
  exact h1 st
theorem vx_lastZ {D : va_G} {cl : List vw_C} {ws : va_W} {tys : List (ClassId × FieldType)} {a : Nat} (hexec : p.tables.exec = Jvm.exec) (hb : c.code = cc) (hK : va_K D cl tys s) (hP : va_P D cl ws H) (q0 t0 : Nat) {cA : ClassId} {n : Nat} {f : Nat → Int64} (ha : ws[q0]? = some (a, .inl (cA, n, .inr (.inl f)))) (ht : tys[t0]? = some (cA, .long)) {i : Int32} {x : Int64} (hout : ¬ vp_in i n) (hdg : decode cc pc = .ok (.lastore, 1))
    (k : ∀ tx : String, tx = (toString "Index " ++ toString i ++ toString " out of bounds for length " ++ toString n : String) → vx_Note p l e R s m args below meth c H locs cells slots Q (F0 m pc ls rest) "java/lang/ArrayIndexOutOfBoundsException" tx) : W p l e R s m args below meth c H locs cells slots Q (F0 m pc ls (.long x :: .int i :: .ref a :: rest)) := by
  intro T hT X
  obtain ⟨t, st, q⟩ := k _ rfl T hT X
  refine ⟨t, ?_, q⟩
  have h1 := X.lastoreOut hexec (by rw [hT]; exact hP q0 _ ha) ((hK.2 t0 _ ht).1 n (fun j => .long (f j))) (j := i) (by show (i < 0 ∨ (arrV _ _ _).slots.size ≤ _); rw [arrV_size]; exact Classical.byContradiction hout) (g := F0 m pc ls (.long x :: .int i :: .ref a :: rest)) rfl (rest := rest) rfl (by rw [hb]; exact hdg) t
  simp only [arrV_size] at h1
  exact h1 st
theorem vx_faldZ {D : va_G} {cl : List vw_C} {ws : va_W} {tys : List (ClassId × FieldType)} {a : Nat} (hexec : p.tables.exec = Jvm.exec) (hb : c.code = cc) (hK : va_K D cl tys s) (hP : va_P D cl ws H) (q0 t0 : Nat) {cA : ClassId} {n : Nat} {f : Nat → UInt32} (ha : ws[q0]? = some (a, .inl (cA, n, .inr (.inr (.inl f))))) (ht : tys[t0]? = some (cA, .float)) {i : Int32} (hout : ¬ vp_in i n) (hdg : decode cc pc = .ok (.faload, 1))
    (k : ∀ tx : String, tx = (toString "Index " ++ toString i ++ toString " out of bounds for length " ++ toString n : String) → vx_Note p l e R s m args below meth c H locs cells slots Q (F0 m pc ls rest) "java/lang/ArrayIndexOutOfBoundsException" tx) : W p l e R s m args below meth c H locs cells slots Q (F0 m pc ls (.int i :: .ref a :: rest)) := by
  intro T hT X
  obtain ⟨t, st, q⟩ := k _ rfl T hT X
  refine ⟨t, ?_, q⟩
  have h1 := X.faloadOut hexec (by rw [hT]; exact hP q0 _ ha) ((hK.2 t0 _ ht).1 n (fun j => .float (f j))) (j := i) (by show (i < 0 ∨ (arrV _ _ _).slots.size ≤ _); rw [arrV_size]; exact Classical.byContradiction hout) (g := F0 m pc ls (.int i :: .ref a :: rest)) rfl (rest := rest) rfl (by rw [hb]; exact hdg) t
  simp only [arrV_size] at h1
  exact h1 st
theorem vx_fastZ {D : va_G} {cl : List vw_C} {ws : va_W} {tys : List (ClassId × FieldType)} {a : Nat} (hexec : p.tables.exec = Jvm.exec) (hb : c.code = cc) (hK : va_K D cl tys s) (hP : va_P D cl ws H) (q0 t0 : Nat) {cA : ClassId} {n : Nat} {f : Nat → UInt32} (ha : ws[q0]? = some (a, .inl (cA, n, .inr (.inr (.inl f))))) (ht : tys[t0]? = some (cA, .float)) {i : Int32} {x : UInt32} (hout : ¬ vp_in i n) (hdg : decode cc pc = .ok (.fastore, 1))
    (k : ∀ tx : String, tx = (toString "Index " ++ toString i ++ toString " out of bounds for length " ++ toString n : String) → vx_Note p l e R s m args below meth c H locs cells slots Q (F0 m pc ls rest) "java/lang/ArrayIndexOutOfBoundsException" tx) : W p l e R s m args below meth c H locs cells slots Q (F0 m pc ls (.float x :: .int i :: .ref a :: rest)) := by
  intro T hT X
  obtain ⟨t, st, q⟩ := k _ rfl T hT X
  refine ⟨t, ?_, q⟩
  have h1 := X.fastoreOut hexec (by rw [hT]; exact hP q0 _ ha) ((hK.2 t0 _ ht).1 n (fun j => .float (f j))) (j := i) (by show (i < 0 ∨ (arrV _ _ _).slots.size ≤ _); rw [arrV_size]; exact Classical.byContradiction hout) (g := F0 m pc ls (.float x :: .int i :: .ref a :: rest)) rfl (rest := rest) rfl (by rw [hb]; exact hdg) t
  simp only [arrV_size] at h1
  exact h1 st
theorem vx_daldZ {D : va_G} {cl : List vw_C} {ws : va_W} {tys : List (ClassId × FieldType)} {a : Nat} (hexec : p.tables.exec = Jvm.exec) (hb : c.code = cc) (hK : va_K D cl tys s) (hP : va_P D cl ws H) (q0 t0 : Nat) {cA : ClassId} {n : Nat} {f : Nat → UInt64} (ha : ws[q0]? = some (a, .inl (cA, n, .inr (.inr (.inr (.inl f)))))) (ht : tys[t0]? = some (cA, .double)) {i : Int32} (hout : ¬ vp_in i n) (hdg : decode cc pc = .ok (.daload, 1))
    (k : ∀ tx : String, tx = (toString "Index " ++ toString i ++ toString " out of bounds for length " ++ toString n : String) → vx_Note p l e R s m args below meth c H locs cells slots Q (F0 m pc ls rest) "java/lang/ArrayIndexOutOfBoundsException" tx) : W p l e R s m args below meth c H locs cells slots Q (F0 m pc ls (.int i :: .ref a :: rest)) := by
  intro T hT X
  obtain ⟨t, st, q⟩ := k _ rfl T hT X
  refine ⟨t, ?_, q⟩
  have h1 := X.daloadOut hexec (by rw [hT]; exact hP q0 _ ha) ((hK.2 t0 _ ht).1 n (fun j => .double (f j))) (j := i) (by show (i < 0 ∨ (arrV _ _ _).slots.size ≤ _); rw [arrV_size]; exact Classical.byContradiction hout) (g := F0 m pc ls (.int i :: .ref a :: rest)) rfl (rest := rest) rfl (by rw [hb]; exact hdg) t
  simp only [arrV_size] at h1
  exact h1 st
theorem vx_dastZ {D : va_G} {cl : List vw_C} {ws : va_W} {tys : List (ClassId × FieldType)} {a : Nat} (hexec : p.tables.exec = Jvm.exec) (hb : c.code = cc) (hK : va_K D cl tys s) (hP : va_P D cl ws H) (q0 t0 : Nat) {cA : ClassId} {n : Nat} {f : Nat → UInt64} (ha : ws[q0]? = some (a, .inl (cA, n, .inr (.inr (.inr (.inl f)))))) (ht : tys[t0]? = some (cA, .double)) {i : Int32} {x : UInt64} (hout : ¬ vp_in i n) (hdg : decode cc pc = .ok (.dastore, 1))
    (k : ∀ tx : String, tx = (toString "Index " ++ toString i ++ toString " out of bounds for length " ++ toString n : String) → vx_Note p l e R s m args below meth c H locs cells slots Q (F0 m pc ls rest) "java/lang/ArrayIndexOutOfBoundsException" tx) : W p l e R s m args below meth c H locs cells slots Q (F0 m pc ls (.double x :: .int i :: .ref a :: rest)) := by
  intro T hT X
  obtain ⟨t, st, q⟩ := k _ rfl T hT X
  refine ⟨t, ?_, q⟩
  have h1 := X.dastoreOut hexec (by rw [hT]; exact hP q0 _ ha) ((hK.2 t0 _ ht).1 n (fun j => .double (f j))) (j := i) (by show (i < 0 ∨ (arrV _ _ _).slots.size ≤ _); rw [arrV_size]; exact Classical.byContradiction hout) (g := F0 m pc ls (.double x :: .int i :: .ref a :: rest)) rfl (rest := rest) rfl (by rw [hb]; exact hdg) t
  simp only [arrV_size] at h1
  exact h1 st
theorem vx_arraylengthN (hexec : p.tables.exec = Jvm.exec) (hb : c.code = cc) (hdg : decode cc pc = .ok (.arraylength, 1)) (k : vx_NoteN p l e R s m args below meth c H locs cells slots Q (F0 m pc ls rest)) : W p l e R s m args below meth c H locs cells slots Q (F0 m pc ls (.null :: rest)) := by
  intro T hT X
  obtain ⟨t, st, q⟩ := k T hT X
  exact ⟨t, X.arraylengthNull hexec (g := F0 m pc ls (.null :: rest)) rfl (rest := rest) rfl (by rw [hb]; exact hdg) t st, q⟩
theorem vx_ialoadN (hexec : p.tables.exec = Jvm.exec) (hb : c.code = cc) {i : Int32} (hdg : decode cc pc = .ok (.iaload, 1)) (k : vx_NoteN p l e R s m args below meth c H locs cells slots Q (F0 m pc ls rest)) : W p l e R s m args below meth c H locs cells slots Q (F0 m pc ls (.int i :: .null :: rest)) := by
  intro T hT X
  obtain ⟨t, st, q⟩ := k T hT X
  exact ⟨t, X.ialoadNull hexec (g := F0 m pc ls (.int i :: .null :: rest)) rfl (rest := rest) rfl (by rw [hb]; exact hdg) t st, q⟩
theorem vx_laloadN (hexec : p.tables.exec = Jvm.exec) (hb : c.code = cc) {i : Int32} (hdg : decode cc pc = .ok (.laload, 1)) (k : vx_NoteN p l e R s m args below meth c H locs cells slots Q (F0 m pc ls rest)) : W p l e R s m args below meth c H locs cells slots Q (F0 m pc ls (.int i :: .null :: rest)) := by
  intro T hT X
  obtain ⟨t, st, q⟩ := k T hT X
  exact ⟨t, X.laloadNull hexec (g := F0 m pc ls (.int i :: .null :: rest)) rfl (rest := rest) rfl (by rw [hb]; exact hdg) t st, q⟩
theorem vx_faloadN (hexec : p.tables.exec = Jvm.exec) (hb : c.code = cc) {i : Int32} (hdg : decode cc pc = .ok (.faload, 1)) (k : vx_NoteN p l e R s m args below meth c H locs cells slots Q (F0 m pc ls rest)) : W p l e R s m args below meth c H locs cells slots Q (F0 m pc ls (.int i :: .null :: rest)) := by
  intro T hT X
  obtain ⟨t, st, q⟩ := k T hT X
  exact ⟨t, X.faloadNull hexec (g := F0 m pc ls (.int i :: .null :: rest)) rfl (rest := rest) rfl (by rw [hb]; exact hdg) t st, q⟩
theorem vx_daloadN (hexec : p.tables.exec = Jvm.exec) (hb : c.code = cc) {i : Int32} (hdg : decode cc pc = .ok (.daload, 1)) (k : vx_NoteN p l e R s m args below meth c H locs cells slots Q (F0 m pc ls rest)) : W p l e R s m args below meth c H locs cells slots Q (F0 m pc ls (.int i :: .null :: rest)) := by
  intro T hT X
  obtain ⟨t, st, q⟩ := k T hT X
  exact ⟨t, X.daloadNull hexec (g := F0 m pc ls (.int i :: .null :: rest)) rfl (rest := rest) rfl (by rw [hb]; exact hdg) t st, q⟩
theorem vx_aaloadN (hexec : p.tables.exec = Jvm.exec) (hb : c.code = cc) {i : Int32} (hdg : decode cc pc = .ok (.aaload, 1)) (k : vx_NoteN p l e R s m args below meth c H locs cells slots Q (F0 m pc ls rest)) : W p l e R s m args below meth c H locs cells slots Q (F0 m pc ls (.int i :: .null :: rest)) := by
  intro T hT X
  obtain ⟨t, st, q⟩ := k T hT X
  exact ⟨t, X.aaloadNull hexec (g := F0 m pc ls (.int i :: .null :: rest)) rfl (rest := rest) rfl (by rw [hb]; exact hdg) t st, q⟩
theorem vx_baloadN (hexec : p.tables.exec = Jvm.exec) (hb : c.code = cc) {i : Int32} (hdg : decode cc pc = .ok (.baload, 1)) (k : vx_NoteN p l e R s m args below meth c H locs cells slots Q (F0 m pc ls rest)) : W p l e R s m args below meth c H locs cells slots Q (F0 m pc ls (.int i :: .null :: rest)) := by
  intro T hT X
  obtain ⟨t, st, q⟩ := k T hT X
  exact ⟨t, X.baloadNull hexec (g := F0 m pc ls (.int i :: .null :: rest)) rfl (rest := rest) rfl (by rw [hb]; exact hdg) t st, q⟩
theorem vx_caloadN (hexec : p.tables.exec = Jvm.exec) (hb : c.code = cc) {i : Int32} (hdg : decode cc pc = .ok (.caload, 1)) (k : vx_NoteN p l e R s m args below meth c H locs cells slots Q (F0 m pc ls rest)) : W p l e R s m args below meth c H locs cells slots Q (F0 m pc ls (.int i :: .null :: rest)) := by
  intro T hT X
  obtain ⟨t, st, q⟩ := k T hT X
  exact ⟨t, X.caloadNull hexec (g := F0 m pc ls (.int i :: .null :: rest)) rfl (rest := rest) rfl (by rw [hb]; exact hdg) t st, q⟩
theorem vx_saloadN (hexec : p.tables.exec = Jvm.exec) (hb : c.code = cc) {i : Int32} (hdg : decode cc pc = .ok (.saload, 1)) (k : vx_NoteN p l e R s m args below meth c H locs cells slots Q (F0 m pc ls rest)) : W p l e R s m args below meth c H locs cells slots Q (F0 m pc ls (.int i :: .null :: rest)) := by
  intro T hT X
  obtain ⟨t, st, q⟩ := k T hT X
  exact ⟨t, X.saloadNull hexec (g := F0 m pc ls (.int i :: .null :: rest)) rfl (rest := rest) rfl (by rw [hb]; exact hdg) t st, q⟩
theorem vx_iastoreN (hexec : p.tables.exec = Jvm.exec) (hb : c.code = cc) {x : Int32} {i : Int32} (hdg : decode cc pc = .ok (.iastore, 1)) (k : vx_NoteN p l e R s m args below meth c H locs cells slots Q (F0 m pc ls rest)) : W p l e R s m args below meth c H locs cells slots Q (F0 m pc ls (.int x :: .int i :: .null :: rest)) := by
  intro T hT X
  obtain ⟨t, st, q⟩ := k T hT X
  exact ⟨t, X.iastoreNull hexec (g := F0 m pc ls (.int x :: .int i :: .null :: rest)) rfl (rest := rest) rfl (by rw [hb]; exact hdg) t st, q⟩
theorem vx_lastoreN (hexec : p.tables.exec = Jvm.exec) (hb : c.code = cc) {x : Int64} {i : Int32} (hdg : decode cc pc = .ok (.lastore, 1)) (k : vx_NoteN p l e R s m args below meth c H locs cells slots Q (F0 m pc ls rest)) : W p l e R s m args below meth c H locs cells slots Q (F0 m pc ls (.long x :: .int i :: .null :: rest)) := by
  intro T hT X
  obtain ⟨t, st, q⟩ := k T hT X
  exact ⟨t, X.lastoreNull hexec (g := F0 m pc ls (.long x :: .int i :: .null :: rest)) rfl (rest := rest) rfl (by rw [hb]; exact hdg) t st, q⟩
theorem vx_fastoreN (hexec : p.tables.exec = Jvm.exec) (hb : c.code = cc) {x : UInt32} {i : Int32} (hdg : decode cc pc = .ok (.fastore, 1)) (k : vx_NoteN p l e R s m args below meth c H locs cells slots Q (F0 m pc ls rest)) : W p l e R s m args below meth c H locs cells slots Q (F0 m pc ls (.float x :: .int i :: .null :: rest)) := by
  intro T hT X
  obtain ⟨t, st, q⟩ := k T hT X
  exact ⟨t, X.fastoreNull hexec (g := F0 m pc ls (.float x :: .int i :: .null :: rest)) rfl (rest := rest) rfl (by rw [hb]; exact hdg) t st, q⟩
theorem vx_dastoreN (hexec : p.tables.exec = Jvm.exec) (hb : c.code = cc) {x : UInt64} {i : Int32} (hdg : decode cc pc = .ok (.dastore, 1)) (k : vx_NoteN p l e R s m args below meth c H locs cells slots Q (F0 m pc ls rest)) : W p l e R s m args below meth c H locs cells slots Q (F0 m pc ls (.double x :: .int i :: .null :: rest)) := by
  intro T hT X
  obtain ⟨t, st, q⟩ := k T hT X
  exact ⟨t, X.dastoreNull hexec (g := F0 m pc ls (.double x :: .int i :: .null :: rest)) rfl (rest := rest) rfl (by rw [hb]; exact hdg) t st, q⟩
theorem vx_bastoreN (hexec : p.tables.exec = Jvm.exec) (hb : c.code = cc) {x : Int32} {i : Int32} (hdg : decode cc pc = .ok (.bastore, 1)) (k : vx_NoteN p l e R s m args below meth c H locs cells slots Q (F0 m pc ls rest)) : W p l e R s m args below meth c H locs cells slots Q (F0 m pc ls (.int x :: .int i :: .null :: rest)) := by
  intro T hT X
  obtain ⟨t, st, q⟩ := k T hT X
  exact ⟨t, X.bastoreNull hexec (g := F0 m pc ls (.int x :: .int i :: .null :: rest)) rfl (rest := rest) rfl (by rw [hb]; exact hdg) t st, q⟩
theorem vx_castoreN (hexec : p.tables.exec = Jvm.exec) (hb : c.code = cc) {x : Int32} {i : Int32} (hdg : decode cc pc = .ok (.castore, 1)) (k : vx_NoteN p l e R s m args below meth c H locs cells slots Q (F0 m pc ls rest)) : W p l e R s m args below meth c H locs cells slots Q (F0 m pc ls (.int x :: .int i :: .null :: rest)) := by
  intro T hT X
  obtain ⟨t, st, q⟩ := k T hT X
  exact ⟨t, X.castoreNull hexec (g := F0 m pc ls (.int x :: .int i :: .null :: rest)) rfl (rest := rest) rfl (by rw [hb]; exact hdg) t st, q⟩
theorem vx_sastoreN (hexec : p.tables.exec = Jvm.exec) (hb : c.code = cc) {x : Int32} {i : Int32} (hdg : decode cc pc = .ok (.sastore, 1)) (k : vx_NoteN p l e R s m args below meth c H locs cells slots Q (F0 m pc ls rest)) : W p l e R s m args below meth c H locs cells slots Q (F0 m pc ls (.int x :: .int i :: .null :: rest)) := by
  intro T hT X
  obtain ⟨t, st, q⟩ := k T hT X
  exact ⟨t, X.sastoreNull hexec (g := F0 m pc ls (.int x :: .int i :: .null :: rest)) rfl (rest := rest) rfl (by rw [hb]; exact hdg) t st, q⟩
theorem vx_invokeN {own C : String} {index maxL : Nat} {y : MethodName} {bytes : ByteArray} {ret : Option FieldType} (hexec : p.tables.exec = Jvm.exec) (hb : c.code = cc) (hown : s.vm.findClass own = some m.cls) (hlink : (Cond.methodLink own index y).before args s = true) (hinst : (Cond.instanceMethod y).before args s = true) (hcode : (Cond.code y bytes maxL ret).before args s = true) (hsel : (Cond.selects C y y).before args s = true)
    (hx : y.cls ≠ "java/lang/invoke/MethodHandle" ∧ y.cls ≠ "java/lang/invoke/VarHandle") {As : List Value} (hlen : (parseMethodDescriptor y.desc).map (fun d => d.parameters.length) = some As.length) (hdg : decode cc pc = .ok (.invokevirtual index, 3))
    (k : vx_NoteN p l e R s m args below meth c H locs cells slots Q (F0 m pc ls rest)) {st0 : List Value} (hst : st0 = As.reverse ++ .null :: rest) : W p l e R s m args below meth c H locs cells slots Q (F0 m pc ls st0) := by
  intro T hT X
  obtain ⟨r0, r, hn, hrm, hstR, hsigR⟩ := va_Decl.of hinst hcode
  obtain ⟨c2, r2, m2, q1, q2, q3, q4, kP, hkP, hkPi⟩ := Cond.selects_spec hsel
  cases hn.symm.trans q3
  have hl9 : As.length = r.sig.parameters.length := by
    rw [hsigR] at hlen
    exact (Option.some.inj hlen).symm
  obtain ⟨vm', X1, st1⟩ := X.invokevirtualNull hexec hown hlink hn hrm hstR hkP hkPi hx (g := F0 m pc ls st0) rfl (argsL := As) (rest := rest) hl9 hst (by rw [hb]; exact hdg)
  obtain ⟨t, st, q⟩ := k (T.setVm vm') hT X1
  exact ⟨t, st1 t st, q⟩
theorem vx_newarrayZ {atype : ArrayType} (hexec : p.tables.exec = Jvm.exec) (hb : c.code = cc) {n : Int32} (h0 : n < 0) (hdg : decode cc pc = .ok (.newarray atype, 2)) (k : ∀ tx : String, tx = toString n → vx_Note p l e R s m args below meth c H locs cells slots Q (F0 m pc ls rest) "java/lang/NegativeArraySizeException" tx) : W p l e R s m args below meth c H locs cells slots Q (F0 m pc ls (.int n :: rest)) := by
  intro T hT X
  obtain ⟨t, st, q⟩ := k _ rfl T hT X
  exact ⟨t, X.newarrayNegative hexec (g := F0 m pc ls (.int n :: rest)) rfl h0 (rest := rest) rfl (by rw [hb]; exact hdg) t st, q⟩
end
end VXM
/-! ===== END ===== -/
/-! ===== BEGIN an exception as an object: made, kept, thrown later (no traces kept) ===== -/
section VXK
variable {p : Program} {l : Launch} {e : Env} {R : Room} {s : State} {m₀ : MethodId} {args : Array Value} {below : List Frame} {meth : Method} {c : Code} {W : State} {locs : List Loc} {cells slots : Nat}
set_option maxHeartbeats 1000000 in
theorem vx_ctorMadeS (X : Stand p l e R s m₀ args below meth c W locs cells slots) (hexec : p.tables.exec = Jvm.exec) (htr : e.platform.stackTraces = false) {own cls : String} {names : List String} {ic : Nat}
    (hown : s.vm.findClass own = some m₀.cls) (hcls : Bundle.fit cls = true) (hnames : ∀ n ∈ names, Bundle.fit n = true)
    (h : ∀ a ∈ Bundle.ownAtoms own ic cls names, a.before args s = true)
    (hlocs : ∀ x ∈ locs, ∀ cell, s.heap[x.base]? = some cell → cell.vm.isStatics = false)
    {a : Addr} {cX : ClassId} {kX : Class} (hfoundX : s.vm.findClass cls = some cX) (hkX : s.vm.classes[cX]? = some kX) (hcell : W.heap[a]? = some (freshCell cX kX)) (hnew : s.heap.size ≤ a)
    {msg : Value} (hmsg : msg.isRef = true)
    {g : JFrame} (hg : g.method = m₀) (hsize : g.locals.size = c.maxLocals) {rest : List Value} (hstack : g.stack = msg :: .ref a :: .ref a :: rest)
    (hd6 : decode c.code g.pc = .ok (.invokespecial ic, 3))
    (hRframes : names.length + 3 < R.frames) (hRlocals : 2 * g.monitorRoom + ((Value.ref a :: rest).map fun v => v.category).sum + (13 * (names.length + 1) + 42) ≤ R.locals) :
    ∃ (V : State) (ce : Cell) (L : List Loc), Stand p l e R s m₀ args below meth c (V.setCell a ce) (locs ++ L) cells slots ∧ (∀ y ∈ L, y.base = a) ∧ a < V.heap.size ∧ ce.cls = cX ∧ ce.vm = .none ∧
      ∀ target, Steps p.tables e below ((V.setCell a ce).setTop { g with stack := .ref a :: rest, pc := g.pc + 3 }) target → Steps p.tables e below (W.setTop g) target := by
  have howns : e.platform.frameOwnsMonitors = true := by rw [X.admits.platform]
  have hfin : e.platform.finalization = false := by rw [X.admits.platform]
  have hpl : e.platform.magicAccessors = ({} : Platform).magicAccessors := by rw [X.admits.platform]
  have a' : ∀ x, x ∈ Bundle.ownAtoms own ic cls names → x.holds args s none s [] = true := fun x hx => h x hx
  obtain ⟨T, Z0, L, -, Y⟩ := ThrowableC.of_atoms (args := args) howns hfin hpl (fun x hx => h x (by simp [Bundle.ownAtoms, hx]))
  obtain ⟨Z, M, LZ, LM, hnZ⟩ := Init0T.ofS_atoms (args := args) hpl L Y (fun x hx => h x (by simp [Bundle.ownAtoms, hx]))
  obtain ⟨P1, Ps, hlen, L1, hL, hP1m, hlink1, hlink⟩ := Bundle.chainS (args := args) hpl hnZ names cls hcls hnames (fun x hx => h x (by simp [Bundle.ownAtoms, hx]))
  have hfound : s.vm.findClass cls = some P1.m.cls := findClass_of_methodNamed hP1m
  cases Option.some.inj (hfoundX.symm.trans hfound)
  obtain ⟨c1, kX', hc1, hk, hord, -, -, hn6⟩ := Cond.instantiable_spec (a' (.instantiable cls 6) (by simp [Bundle.ownAtoms]))
  cases Option.some.inj (hc1.symm.trans hfound)
  cases Option.some.inj (hkX.symm.trans hk)
  have hsel0 : selectMethod e.platform s.vm P1.m.cls T.fill0 = .method T.fill0 := by
    obtain ⟨c2, r2, m2, q1, q2, q3, q4, -⟩ := Cond.selects_spec (a' (.selects cls Bundle.tFill0 Bundle.tFill0) (by simp [Bundle.ownAtoms]))
    cases Option.some.inj (q1.symm.trans hfound)
    cases Option.some.inj (q2.symm.trans (State.methodFound?_of_named Y.fill0 (by decide)))
    cases Option.some.inj (q3.symm.trans Y.fill0)
    rw [Launch.admits_selectMethod X.admits]; exact q4
  have hselF : selectMethod e.platform s.vm P1.m.cls T.fill = .method T.fill := by
    obtain ⟨c2, r2, m2, q1, q2, q3, q4, -⟩ := Cond.selects_spec (a' (.selects cls Bundle.tFill Bundle.tFill) (by simp [Bundle.ownAtoms]))
    cases Option.some.inj (q1.symm.trans hfound)
    cases Option.some.inj (q2.symm.trans (State.methodFound?_of_named Y.fill (by decide)))
    cases Option.some.inj (q3.symm.trans Y.fill)
    rw [Launch.admits_selectMethod X.admits]; exact q4
  obtain ⟨cellS0, hcS0, hiss⟩ := Y.statics
  obtain ⟨u0, hu0⟩ := Cond.staticRefV Y.unassigned L.unassignedStatic L.statics hcS0 hiss (a' (.isRef (.static Bundle.tN "UNASSIGNED_STACK" Bundle.steD)) (by simp [Bundle.ownAtoms]))
  obtain ⟨sen, hsen⟩ := Cond.staticRefV Y.sentinel L.sentinelStatic L.statics hcS0 hiss (a' (.isRef (.static Bundle.tN "SUPPRESSED_SENTINEL" Bundle.listD)) (by simp [Bundle.ownAtoms]))
  obtain ⟨ci198, i198, fB, hk198, hg198, ha198, hsB, -, hnB, htB, hffB⟩ := Cond.ownField (t := .object "java/lang/Object") Y.found L.cls (by decide +kernel) (a' (.fieldLink Bundle.tN 198 Bundle.tN "backtrace" "Ljava/lang/Object;") (by simp [Bundle.ownAtoms])) (a' (.lays Bundle.tN Bundle.tN "backtrace" "Ljava/lang/Object;") (by simp [Bundle.ownAtoms])) e.platform hpl
  obtain ⟨cellS, hcS', heS, -, hkeep⟩ := X.same.2.2.2.2.2 T.aS cellS0 hcS0
  have hcellS : W.heap[T.aS]? = some cellS := hcS'
  have hout' : ∀ i, (⟨T.aS, i⟩ : Loc) ∉ locs := fun i hmem => by
    have := hlocs _ hmem cellS0 hcS0
    rw [hiss] at this; cases this
  have hknownS : cellS.vm ≠ .unknown := by
    rw [heS]; intro hu
    rw [show cellS0.vm = .unknown from hu] at hiss
    cases hiss
  have hneS : T.aS ≠ a := Nat.ne_of_lt (Nat.lt_of_lt_of_le (Array.getElem?_eq_some_iff.mp hcS0).1 hnew)
  obtain ⟨iM, hffM⟩ := Y.msg
  obtain ⟨tyC, dC, hdC, hdnC⟩ := Cond.laysAt hfound hk Y.cause (a' (.lays cls Bundle.tN "cause" "Ljava/lang/Throwable;") (by simp [Bundle.ownAtoms]))
  obtain ⟨tyS, dS, hdS, hdnS⟩ := Cond.laysAt hfound hk Y.stack (a' (.lays cls Bundle.tN "stackTrace" Bundle.steD) (by simp [Bundle.ownAtoms]))
  obtain ⟨tyP, dP, hdP, hdnP⟩ := Cond.laysAt hfound hk Y.supp (a' (.lays cls Bundle.tN "suppressedExceptions" Bundle.listD) (by simp [Bundle.ownAtoms]))
  obtain ⟨tyM, dM, hdM, hdnM⟩ := Cond.laysAt hfound hk hffM (a' (.lays cls Bundle.tN "detailMessage" "Ljava/lang/String;") (by simp [Bundle.ownAtoms]))
  obtain ⟨tyB, dB, hdB, hdnB⟩ := Cond.laysAt hfound hk hffB (a' (.lays cls Bundle.tN "backtrace" "Ljava/lang/Object;") (by simp [Bundle.ownAtoms]))
  have bC := Cond.laysApart hdB hdC hdnB hdnC (by rw [hnB, Y.causeName]; decide)
  have bS := Cond.laysApart hdB hdS hdnB hdnS (by rw [hnB, Y.stackName]; decide)
  have bP := Cond.laysApart hdB hdP hdnB hdnP (by rw [hnB, Y.suppName]; decide)
  have hskip : SkipFacts T e.platform s (fun u => u) u0 ((preparedCellV T.toThrowableT (freshCell P1.m.cls kX) a u0 sen).withEntry W.cur) :=
    ⟨{ ci198 := ci198, i198 := i198, fBack := fB }, ⟨hk198, hg198, ha198, hsB⟩, by
      have := fresh_default (c := P1.m.cls) tyB
      rw [htB] at this
      simpa [preparedCellV, Cell.setSlot, Cell.withEntry, Array.getElem?_setIfInBounds, bC, bS, bP, bC.symm, bS.symm, bP.symm, defaultValue] using this, fun _ _ => rfl⟩
  obtain ⟨tm, methC, cdC, kC, vm₁, hnC, -, -, -, -, -, -, -, hW₁, st1⟩ := Steps.initColdS (tb := p.tables) (e := e) (below := below) (s := s) (U := W) X.here hexec X.warmed hpl hown (t := Bundle.initS cls) rfl rfl (Bundle.fit_spec hcls).2
    (a' (.methodLink own ic (Bundle.initS cls)) (by simp [Bundle.ownAtoms])) (h (.instanceMethod (Bundle.initS cls)) (by cases names <;> simp [Bundle.ownAtoms, Bundle.chainSAtoms, Bundle.passSAtoms])) (bytes := Bundle.six) (maxL := 2) (h (.code (Bundle.initS cls) Bundle.six 2 none) (by cases names <;> simp [Bundle.ownAtoms, Bundle.chainSAtoms, Bundle.passSAtoms]))
    (f := g) hg (a := a) (msg := msg) (rest := .ref a :: rest) hstack hd6
  cases Option.some.inj (hnC.symm.trans hP1m)
  have X₁ := X.noted hW₁
  obtain ⟨vm₂, X₂, st2⟩ := X₁.ctorMessageOffV hexec (g := { g with stack := .ref a :: rest }) hg hsize T L Z LZ M LM (P1 :: Ps)
    (fun P hP => by rcases List.mem_cons.mp hP with rfl | hP; exact L1; exact hL P hP) ⟨hlink1, hlink⟩ (u0 := u0) (sen := sen) (self := a) hmsg (cell := freshCell P1.m.cls kX) (cellS := cellS)
    hcell (fun _ => by simp) (by simp) rfl rfl hsel0 hselF hcellS hneS hknownS (by rw [hkeep _ (hout' _)]; exact hu0) (by rw [hkeep _ (hout' _)]; exact hsen)
    (Takes.of_laid hk hord tyC (by rw [Y.causeType]; rfl)) (Takes.of_laid hk hord tyS (by rw [Y.stackType]; exact fits_refV_array _ u0)) (Takes.of_laid hk hord tyP (by rw [Y.suppType]; exact fits_refV_object _ sen))
    (Takes.of_laid hk hord tyM (by rw [Y.msgType]; exact fits_refV_object _ ⟨msg, hmsg⟩)) Y.objLocals hskip htr [] hd6
    (by simp only [List.length_cons, hlen]; omega) (by simp only [List.length_cons, hlen]; exact hRlocals)
  have hlt : a < ((W.setVm vm₁).setVm vm₂).heap.size := (Array.getElem?_eq_some_iff.mp hcell).1
  refine ⟨(W.setVm vm₁).setVm vm₂, _, _, X₂, fun y hy => ?_, hlt, rfl, rfl, fun target hwalk => st1 _ (fun acts => ?_)⟩
  · simp only [List.mem_cons, List.not_mem_nil, or_false] at hy
    rcases hy with rfl | rfl | rfl | rfl | rfl <;> rfl
  · rw [doInvoke_state]
    exact st2 _ hwalk
set_option maxHeartbeats 1000000 in
theorem vx_ctorMade0 (X : Stand p l e R s m₀ args below meth c W locs cells slots) (hexec : p.tables.exec = Jvm.exec) (htr : e.platform.stackTraces = false) {own cls : String} {names : List String} {ic : Nat}
    (hown : s.vm.findClass own = some m₀.cls) (hcls : Bundle.fit cls = true) (hnames : ∀ n ∈ names, Bundle.fit n = true)
    (h : ∀ a ∈ Bundle.ownAtoms0 own ic cls names, a.before args s = true)
    (hlocs : ∀ x ∈ locs, ∀ cell, s.heap[x.base]? = some cell → cell.vm.isStatics = false)
    {a : Addr} {cX : ClassId} {kX : Class} (hfoundX : s.vm.findClass cls = some cX) (hkX : s.vm.classes[cX]? = some kX) (hcell : W.heap[a]? = some (freshCell cX kX)) (hnew : s.heap.size ≤ a)
    {g : JFrame} (hg : g.method = m₀) (hsize : g.locals.size = c.maxLocals) {rest : List Value} (hstack : g.stack = .ref a :: .ref a :: rest)
    (hd6 : decode c.code g.pc = .ok (.invokespecial ic, 3))
    (hRframes : names.length + 3 < R.frames) (hRlocals : 2 * g.monitorRoom + ((Value.ref a :: rest).map fun v => v.category).sum + (13 * (names.length + 1) + 41) ≤ R.locals) :
    ∃ (V : State) (ce : Cell) (L : List Loc), Stand p l e R s m₀ args below meth c (V.setCell a ce) (locs ++ L) cells slots ∧ (∀ y ∈ L, y.base = a) ∧ a < V.heap.size ∧ ce.cls = cX ∧ ce.vm = .none ∧
      ∀ target, Steps p.tables e below ((V.setCell a ce).setTop { g with stack := .ref a :: rest, pc := g.pc + 3 }) target → Steps p.tables e below (W.setTop g) target := by
  have howns : e.platform.frameOwnsMonitors = true := by rw [X.admits.platform]
  have hfin : e.platform.finalization = false := by rw [X.admits.platform]
  have hpl : e.platform.magicAccessors = ({} : Platform).magicAccessors := by rw [X.admits.platform]
  have a' : ∀ x, x ∈ Bundle.ownAtoms0 own ic cls names → x.holds args s none s [] = true := fun x hx => h x hx
  obtain ⟨T, Z, L, LZ, Y⟩ := ThrowableC.of_atoms (args := args) howns hfin hpl (fun x hx => h x (by simp [Bundle.ownAtoms0, hx]))
  obtain ⟨P1, Ps, hlen, L1, hL, hP1m, hlink1, hlink⟩ := Bundle.chain0 (args := args) hpl Y.init0 names cls hcls hnames (fun x hx => h x (by simp [Bundle.ownAtoms0, hx]))
  have hfound : s.vm.findClass cls = some P1.m.cls := findClass_of_methodNamed hP1m
  cases Option.some.inj (hfoundX.symm.trans hfound)
  obtain ⟨c1, kX', hc1, hk, hord, -, -, hn6⟩ := Cond.instantiable_spec (a' (.instantiable cls 6) (by simp [Bundle.ownAtoms0]))
  cases Option.some.inj (hc1.symm.trans hfound)
  cases Option.some.inj (hkX.symm.trans hk)
  have hsel0 : selectMethod e.platform s.vm P1.m.cls T.fill0 = .method T.fill0 := by
    obtain ⟨c2, r2, m2, q1, q2, q3, q4, -⟩ := Cond.selects_spec (a' (.selects cls Bundle.tFill0 Bundle.tFill0) (by simp [Bundle.ownAtoms0]))
    cases Option.some.inj (q1.symm.trans hfound)
    cases Option.some.inj (q2.symm.trans (State.methodFound?_of_named Y.fill0 (by decide)))
    cases Option.some.inj (q3.symm.trans Y.fill0)
    rw [Launch.admits_selectMethod X.admits]; exact q4
  have hselF : selectMethod e.platform s.vm P1.m.cls T.fill = .method T.fill := by
    obtain ⟨c2, r2, m2, q1, q2, q3, q4, -⟩ := Cond.selects_spec (a' (.selects cls Bundle.tFill Bundle.tFill) (by simp [Bundle.ownAtoms0]))
    cases Option.some.inj (q1.symm.trans hfound)
    cases Option.some.inj (q2.symm.trans (State.methodFound?_of_named Y.fill (by decide)))
    cases Option.some.inj (q3.symm.trans Y.fill)
    rw [Launch.admits_selectMethod X.admits]; exact q4
  obtain ⟨cellS0, hcS0, hiss⟩ := Y.statics
  obtain ⟨u0, hu0⟩ := Cond.staticRefV Y.unassigned L.unassignedStatic L.statics hcS0 hiss (a' (.isRef (.static Bundle.tN "UNASSIGNED_STACK" Bundle.steD)) (by simp [Bundle.ownAtoms0]))
  obtain ⟨sen, hsen⟩ := Cond.staticRefV Y.sentinel L.sentinelStatic L.statics hcS0 hiss (a' (.isRef (.static Bundle.tN "SUPPRESSED_SENTINEL" Bundle.listD)) (by simp [Bundle.ownAtoms0]))
  obtain ⟨ci198, i198, fB, hk198, hg198, ha198, hsB, -, hnB, htB, hffB⟩ := Cond.ownField (t := .object "java/lang/Object") Y.found L.cls (by decide +kernel) (a' (.fieldLink Bundle.tN 198 Bundle.tN "backtrace" "Ljava/lang/Object;") (by simp [Bundle.ownAtoms0])) (a' (.lays Bundle.tN Bundle.tN "backtrace" "Ljava/lang/Object;") (by simp [Bundle.ownAtoms0])) e.platform hpl
  obtain ⟨cellS, hcS', heS, -, hkeep⟩ := X.same.2.2.2.2.2 T.aS cellS0 hcS0
  have hcellS : W.heap[T.aS]? = some cellS := hcS'
  have hout' : ∀ i, (⟨T.aS, i⟩ : Loc) ∉ locs := fun i hmem => by
    have := hlocs _ hmem cellS0 hcS0
    rw [hiss] at this; cases this
  have hknownS : cellS.vm ≠ .unknown := by
    rw [heS]; intro hu
    rw [show cellS0.vm = .unknown from hu] at hiss
    cases hiss
  have hneS : T.aS ≠ a := Nat.ne_of_lt (Nat.lt_of_lt_of_le (Array.getElem?_eq_some_iff.mp hcS0).1 hnew)
  obtain ⟨iM, hffM⟩ := Y.msg
  obtain ⟨tyC, dC, hdC, hdnC⟩ := Cond.laysAt hfound hk Y.cause (a' (.lays cls Bundle.tN "cause" "Ljava/lang/Throwable;") (by simp [Bundle.ownAtoms0]))
  obtain ⟨tyS, dS, hdS, hdnS⟩ := Cond.laysAt hfound hk Y.stack (a' (.lays cls Bundle.tN "stackTrace" Bundle.steD) (by simp [Bundle.ownAtoms0]))
  obtain ⟨tyP, dP, hdP, hdnP⟩ := Cond.laysAt hfound hk Y.supp (a' (.lays cls Bundle.tN "suppressedExceptions" Bundle.listD) (by simp [Bundle.ownAtoms0]))
  obtain ⟨tyM, dM, hdM, hdnM⟩ := Cond.laysAt hfound hk hffM (a' (.lays cls Bundle.tN "detailMessage" "Ljava/lang/String;") (by simp [Bundle.ownAtoms0]))
  obtain ⟨tyB, dB, hdB, hdnB⟩ := Cond.laysAt hfound hk hffB (a' (.lays cls Bundle.tN "backtrace" "Ljava/lang/Object;") (by simp [Bundle.ownAtoms0]))
  have bC := Cond.laysApart hdB hdC hdnB hdnC (by rw [hnB, Y.causeName]; decide)
  have bS := Cond.laysApart hdB hdS hdnB hdnS (by rw [hnB, Y.stackName]; decide)
  have bP := Cond.laysApart hdB hdP hdnB hdnP (by rw [hnB, Y.suppName]; decide)
  have hskip : SkipFacts T e.platform s (fun u => u) u0 ((preparedCellV T.toThrowableT (freshCell P1.m.cls kX) a u0 sen).withEntry W.cur) :=
    ⟨{ ci198 := ci198, i198 := i198, fBack := fB }, ⟨hk198, hg198, ha198, hsB⟩, by
      have := fresh_default (c := P1.m.cls) tyB
      rw [htB] at this
      simpa [preparedCellV, Cell.setSlot, Cell.withEntry, Array.getElem?_setIfInBounds, bC, bS, bP, bC.symm, bS.symm, bP.symm, defaultValue] using this, fun _ _ => rfl⟩
  obtain ⟨tm, methC, cdC, kC, vm₁, hnC, -, -, -, -, -, -, -, hW₁, st1⟩ := Steps.initCold (tb := p.tables) (e := e) (below := below) (s := s) (U := W) X.here hexec X.warmed hpl hown (t := Bundle.init0 cls) rfl rfl (Bundle.fit_spec hcls).2
    (a' (.methodLink own ic (Bundle.init0 cls)) (by simp [Bundle.ownAtoms0])) (h (.instanceMethod (Bundle.init0 cls)) (by cases names <;> simp [Bundle.ownAtoms0, Bundle.chain0Atoms, Bundle.passAtoms])) (bytes := Bundle.five) (maxL := 1) (h (.code (Bundle.init0 cls) Bundle.five 1 none) (by cases names <;> simp [Bundle.ownAtoms0, Bundle.chain0Atoms, Bundle.passAtoms]))
    (f := g) hg (a := a) (rest := .ref a :: rest) hstack hd6
  cases Option.some.inj (hnC.symm.trans hP1m)
  have X₁ := X.noted hW₁
  obtain ⟨vm₂, X₂, st2⟩ := X₁.ctorPlainOffV hexec (g := { g with stack := .ref a :: rest }) hg hsize T L Z LZ (P1 :: Ps)
    (fun P hP => by rcases List.mem_cons.mp hP with rfl | hP; exact L1; exact hL P hP) ⟨hlink1, hlink⟩ (u0 := u0) (sen := sen) (self := a) (cell := freshCell P1.m.cls kX) (cellS := cellS)
    hcell (fun _ => by simp) (by simp) rfl rfl hsel0 hselF hcellS hneS hknownS (by rw [hkeep _ (hout' _)]; exact hu0) (by rw [hkeep _ (hout' _)]; exact hsen)
    (Takes.of_laid hk hord tyC (by rw [Y.causeType]; rfl)) (Takes.of_laid hk hord tyS (by rw [Y.stackType]; exact fits_refV_array _ u0)) (Takes.of_laid hk hord tyP (by rw [Y.suppType]; exact fits_refV_object _ sen)) Y.objLocals hskip htr [] hd6
    (by simp only [List.length_cons, hlen]; omega) (by simp only [List.length_cons, hlen]; exact hRlocals)
  have hlt : a < ((W.setVm vm₁).setVm vm₂).heap.size := (Array.getElem?_eq_some_iff.mp hcell).1
  refine ⟨(W.setVm vm₁).setVm vm₂, _, _, X₂, fun y hy => ?_, hlt, rfl, rfl, fun target hwalk => st1 _ (fun acts => ?_)⟩
  · simp only [List.mem_cons, List.not_mem_nil, or_false] at hy
    rcases hy with rfl | rfl | rfl | rfl <;> rfl
  · rw [doInvoke_state]
    exact st2 _ hwalk
end VXK
section VXK2
variable {p : Program} {l : Launch} {e : Env} {R : Room} {s : State} {m : MethodId} {args : Array Value} {below : List Frame} {meth : Method} {c : Code} {H : Heap} {locs : List Loc} {cells slots : Nat} {Q : State → Prop}
variable {ls : Array Slot} {rest : List Value} {D : va_G} {cl : List vw_C} {tys : List (ClassId × FieldType)} {ws : va_W}
/-- 'new E("text")' that isn't thrown at once: the object goes on the stack -/
theorem vx_makeS {cc : ByteArray} {pc : Nat} (hexec : p.tables.exec = Jvm.exec) (hb : c.code = cc) (hl : l.stackTraces = false) {own cls text : String} {names : List String} {ik is ic sa ci : Nat} {A : Nat → Prop} {T0 : u_T}
    (hown : s.vm.findClass own = some m.cls) (hcls : Bundle.fit cls = true) (hnames : ∀ n ∈ names, Bundle.fit n = true)
    (hk : (Cond.classLink own ik cls).before args s = true) (hini : (Cond.initialized cls).before args s = true) (hstr : vk_R own is text sa s) (hat : ∀ w ∈ vx_atS own ic cls names, w.before args s = true)
    (hgood : ∀ w ∈ Cond.classLink own ik cls :: Cond.initialized cls :: vx_atS own ic cls names, vx_ot w = true)
    (hU : vx_Zq Bundle.tN "UNASSIGNED_STACK" Bundle.steD A s s.heap) (hN : vx_Zq Bundle.tN "SUPPRESSED_SENTINEL" Bundle.listD A s s.heap) (hS : va_S A s.heap H locs) (hsize : ls.size = c.maxLocals)
    (d0 : decode cc pc = .ok (.new ik, 3)) (d3 : decode cc (pc + 3) = .ok (.dup, 1)) (d4 : decode cc (pc + 4) = .ok (.ldc is, 2)) (d6 : decode cc (pc + 6) = .ok (.invokespecial ic, 3))
    (hK : va_K D cl tys s) (hP : va_P D cl ws H) (hD : va_D A ws) (hA : ∀ q, s.heap.size ≤ q → A q) (hc : cl[ci]? = some (cls, T0, 0))
    (hRframes : names.length + 3 < R.frames) (hRlocals : (rest.map fun v => v.category).sum + (13 * (names.length + 1) + 43) ≤ R.locals) (hRcells : cells + 1 ≤ R.cells) (hRslots : slots + 6 ≤ R.slots)
    (kk : ∀ (q : Nat) (H1 : Heap), va_P D cl (ws ++ [(q, .inr (ci, []))]) H1 → va_D A (ws ++ [(q, .inr (ci, []))]) → va_S A s.heap H1 locs → W p l e R s m args below meth c H1 locs (cells + 1) (slots + 6) Q (F0 m (pc + 9) ls (.ref q :: rest))) :
    W p l e R s m args below meth c H locs cells slots Q (F0 m pc ls rest) := by
  intro T hT X
  subst hT
  have htr : e.platform.stackTraces = false := (show e.platform.stackTraces = l.stackTraces by rw [X.admits.platform]).trans hl
  have Y := vx_rebase X (R' := { frames := R.frames, locals := R.locals, cells := 1, slots := 6 }) (Nat.le_refl _) (Nat.le_refl _) hRcells hRslots
  obtain ⟨s', hA'⟩ : ∃ z, z = (T.setVm s.vm).setFrames (.invoking m args :: below) := ⟨_, rfl⟩
  rw [← hA'] at Y
  have hvm : s'.vm = s.vm := by rw [hA']; rfl
  have hhp : s'.heap = T.heap := by rw [hA']; rfl
  have hW0 : s.WarmedH s'.vm := by rw [hvm]; exact State.WarmedH.refl s
  have hat' : ∀ w ∈ vx_atS own ic cls names, w.before args s' = true := fun w hw => vx_ot_at hW0 hvm.symm (hgood w (List.mem_cons_of_mem _ (List.mem_cons_of_mem _ hw))) (hat w hw)
  have hk' : (Cond.classLink own ik cls).before args s' = true := vx_ot_at hW0 hvm.symm (hgood _ List.mem_cons_self) hk
  have hini' : (Cond.initialized cls).before args s' = true := vx_ot_at hW0 hvm.symm (hgood _ (List.mem_cons_of_mem _ List.mem_cons_self)) hini
  have hU' : vx_Zq Bundle.tN "UNASSIGNED_STACK" Bundle.steD A s' s'.heap := by rw [hhp]; exact vx_Zq.moved hW0.alike (hU.kept hS.2.1)
  have hN' : vx_Zq Bundle.tN "SUPPRESSED_SENTINEL" Bundle.listD A s' s'.heap := by rw [hhp]; exact vx_Zq.moved hW0.alike (hN.kept hS.2.1)
  have h : ∀ w ∈ Bundle.ownAtoms own ic cls names, w.before args s' = true := vx_own hat' (vx_isRefq hU'.1) (vx_isRefq hN'.1) hU'.2.word hN'.2.word
  have hown' : s'.vm.findClass own = some m.cls := by rw [hvm]; exact hown
  have hins : (Cond.instantiable cls 6).before args s' = true := h _ (by simp [Bundle.ownAtoms])
  obtain ⟨vm₁, cX, kX, hfX, hkX, -, -, X₁, st1⟩ := Y.newCold hexec (own := own) (C := cls) (index := ik) (n := 6) hown' hk' hins hini'
    (g := F0 m pc ls rest) rfl (by rw [hb]; exact d0) (Nat.le_refl _) (Nat.le_refl _)
  generalize hT1 : (T.setVm vm₁).pushCell { cls := cX, slots := kX.instanceTypes.map defaultValue, vm := .none } = T1 at X₁ st1
  have hcat : (Value.ref T.heap.size).category = 1 := rfl
  have hcellA : T1.heap[T.heap.size]? = some (freshCell cX kX) := by rw [← hT1]; exact State.heap_pushCell_size _ _
  have d3' : decode c.code (pc + 3) = .ok (.dup, 1) := by rw [hb]; exact d3
  have d4' : decode c.code (pc + 4) = .ok (.ldc is, 2) := by rw [hb]; exact d4
  have hstr' : vk_R own is text sa s' := vk_R.warm hW0 hstr
  obtain ⟨V, ce, L, Z, hL, hlt, hcl9, hvm9, st⟩ := vx_ctorMadeS X₁ hexec htr (own := own) (cls := cls) (names := names) (ic := ic) hown' hcls hnames h (fun x hx => nomatch hx) hfX hkX hcellA (by rw [hhp]; exact Nat.le_refl _) (msg := .ref sa) rfl
    (g := { method := m, pc := pc + 6, locals := ls, stack := .ref sa :: .ref T.heap.size :: .ref T.heap.size :: rest, locked := none }) rfl hsize (rest := rest) rfl
    (by rw [hb]; exact d6) hRframes (by simp only [List.map_cons, List.sum_cons, hcat]; omega)
  have Z0 := Stand.forget (locs := []) Z (fun y hy => by rw [hL y hy, hhp]; exact Nat.le_refl _)
  obtain ⟨f1, f2⟩ := vx_frame Z0.same
  rw [hhp] at f1 f2
  have hcid : ce.cls = D.1 ci := by
    rw [hcl9]
    have h1 := (hK.1 ci _ hc).2.1
    rw [hvm] at hfX
    exact Option.some.inj (hfX.symm.trans h1)
  have hh : (V.setCell T.heap.size ce).heap[T.heap.size]? = some ce := heapAt_setCell_self (s := V) ce hlt
  subst hA'
  have X5 := vx_back9 X Y Z0
  have X6 : Stand p l e R s m args below meth c (V.setCell T.heap.size ce) locs (cells + 1) (slots + 6) := { X5 with same := X5.same.mono (by omega) (by omega) }
  have hk9 : ∀ (k : Nat) (x : Nat × va_E), ws[k]? = some x → (V.setCell T.heap.size ce).heap[x.1]? = T.heap[x.1]? := fun k x hx => f2 x.1 ((hP k x hx).lt) (fun z hz => nomatch hz)
  obtain ⟨t, a1, b1⟩ := kk T.heap.size (V.setCell T.heap.size ce).heap ((hP.kept hk9).app (fun k x hx => by
      have hz : k < 1 := (List.getElem?_eq_some_iff.mp hx).1
      rw [show k = 0 by omega] at hx
      cases hx
      exact ⟨_, hc, ce, hh, hcid, hvm9, fun k hk => absurd hk (Nat.not_lt_zero k)⟩)) (hD.push hP rfl (hA _ hS.1)) ⟨Nat.le_trans hS.1 f1, fun q h1 h2 => (f2 q (Nat.lt_of_lt_of_le h1 hS.1) (fun z hz => nomatch hz)).trans (hS.2.1 q h1 h2), hS.2.2⟩ _ rfl X6
  refine ⟨t, st1 _ ?_, b1⟩
  show Steps p.tables e below (T1.setTop { method := m, pc := pc + 3, locals := ls, stack := .ref T.heap.size :: rest, locked := none }) _
  jvm_step X₁.here [X₁.here.top, hexec, d3', Value.category]
  exact X₁.ldcString hexec (own := own) (text := text) (index := is) (a := sa) hown' hstr'.1 hstr'.2
    (g := { method := m, pc := pc + 4, locals := ls, stack := .ref T.heap.size :: .ref T.heap.size :: rest, locked := none }) rfl d4' _ (st _ a1)
/-- 'new E()' that isn't thrown at once: the object goes on the stack -/
theorem vx_make0 {cc : ByteArray} {pc : Nat} (hexec : p.tables.exec = Jvm.exec) (hb : c.code = cc) (hl : l.stackTraces = false) {own cls : String} {names : List String} {ik ic ci : Nat} {A : Nat → Prop} {T0 : u_T}
    (hown : s.vm.findClass own = some m.cls) (hcls : Bundle.fit cls = true) (hnames : ∀ n ∈ names, Bundle.fit n = true)
    (hk : (Cond.classLink own ik cls).before args s = true) (hini : (Cond.initialized cls).before args s = true) (hat : ∀ w ∈ vx_at0 own ic cls names, w.before args s = true)
    (hgood : ∀ w ∈ Cond.classLink own ik cls :: Cond.initialized cls :: vx_at0 own ic cls names, vx_ot w = true)
    (hU : vx_Zq Bundle.tN "UNASSIGNED_STACK" Bundle.steD A s s.heap) (hN : vx_Zq Bundle.tN "SUPPRESSED_SENTINEL" Bundle.listD A s s.heap) (hS : va_S A s.heap H locs) (hsize : ls.size = c.maxLocals)
    (d0 : decode cc pc = .ok (.new ik, 3)) (d3 : decode cc (pc + 3) = .ok (.dup, 1)) (d4 : decode cc (pc + 4) = .ok (.invokespecial ic, 3))
    (hK : va_K D cl tys s) (hP : va_P D cl ws H) (hD : va_D A ws) (hA : ∀ q, s.heap.size ≤ q → A q) (hc : cl[ci]? = some (cls, T0, 0))
    (hRframes : names.length + 3 < R.frames) (hRlocals : (rest.map fun v => v.category).sum + (13 * (names.length + 1) + 42) ≤ R.locals) (hRcells : cells + 1 ≤ R.cells) (hRslots : slots + 6 ≤ R.slots)
    (kk : ∀ (q : Nat) (H1 : Heap), va_P D cl (ws ++ [(q, .inr (ci, []))]) H1 → va_D A (ws ++ [(q, .inr (ci, []))]) → va_S A s.heap H1 locs → W p l e R s m args below meth c H1 locs (cells + 1) (slots + 6) Q (F0 m (pc + 7) ls (.ref q :: rest))) :
    W p l e R s m args below meth c H locs cells slots Q (F0 m pc ls rest) := by
  intro T hT X
  subst hT
  have htr : e.platform.stackTraces = false := (show e.platform.stackTraces = l.stackTraces by rw [X.admits.platform]).trans hl
  have Y := vx_rebase X (R' := { frames := R.frames, locals := R.locals, cells := 1, slots := 6 }) (Nat.le_refl _) (Nat.le_refl _) hRcells hRslots
  obtain ⟨s', hA'⟩ : ∃ z, z = (T.setVm s.vm).setFrames (.invoking m args :: below) := ⟨_, rfl⟩
  rw [← hA'] at Y
  have hvm : s'.vm = s.vm := by rw [hA']; rfl
  have hhp : s'.heap = T.heap := by rw [hA']; rfl
  have hW0 : s.WarmedH s'.vm := by rw [hvm]; exact State.WarmedH.refl s
  have hat' : ∀ w ∈ vx_at0 own ic cls names, w.before args s' = true := fun w hw => vx_ot_at hW0 hvm.symm (hgood w (List.mem_cons_of_mem _ (List.mem_cons_of_mem _ hw))) (hat w hw)
  have hk' : (Cond.classLink own ik cls).before args s' = true := vx_ot_at hW0 hvm.symm (hgood _ List.mem_cons_self) hk
  have hini' : (Cond.initialized cls).before args s' = true := vx_ot_at hW0 hvm.symm (hgood _ (List.mem_cons_of_mem _ List.mem_cons_self)) hini
  have hU' : vx_Zq Bundle.tN "UNASSIGNED_STACK" Bundle.steD A s' s'.heap := by rw [hhp]; exact vx_Zq.moved hW0.alike (hU.kept hS.2.1)
  have hN' : vx_Zq Bundle.tN "SUPPRESSED_SENTINEL" Bundle.listD A s' s'.heap := by rw [hhp]; exact vx_Zq.moved hW0.alike (hN.kept hS.2.1)
  have h : ∀ w ∈ Bundle.ownAtoms0 own ic cls names, w.before args s' = true := vx_own hat' (vx_isRefq hU'.1) (vx_isRefq hN'.1) hU'.2.word hN'.2.word
  have hown' : s'.vm.findClass own = some m.cls := by rw [hvm]; exact hown
  have hins : (Cond.instantiable cls 6).before args s' = true := h _ (by simp [Bundle.ownAtoms0])
  obtain ⟨vm₁, cX, kX, hfX, hkX, -, -, X₁, st1⟩ := Y.newCold hexec (own := own) (C := cls) (index := ik) (n := 6) hown' hk' hins hini'
    (g := F0 m pc ls rest) rfl (by rw [hb]; exact d0) (Nat.le_refl _) (Nat.le_refl _)
  generalize hT1 : (T.setVm vm₁).pushCell { cls := cX, slots := kX.instanceTypes.map defaultValue, vm := .none } = T1 at X₁ st1
  have hcat : (Value.ref T.heap.size).category = 1 := rfl
  have hcellA : T1.heap[T.heap.size]? = some (freshCell cX kX) := by rw [← hT1]; exact State.heap_pushCell_size _ _
  have d3' : decode c.code (pc + 3) = .ok (.dup, 1) := by rw [hb]; exact d3
  obtain ⟨V, ce, L, Z, hL, hlt, hcl9, hvm9, st⟩ := vx_ctorMade0 X₁ hexec htr (own := own) (cls := cls) (names := names) (ic := ic) hown' hcls hnames h (fun x hx => nomatch hx) hfX hkX hcellA (by rw [hhp]; exact Nat.le_refl _)
    (g := { method := m, pc := pc + 4, locals := ls, stack := .ref T.heap.size :: .ref T.heap.size :: rest, locked := none }) rfl hsize (rest := rest) rfl
    (by rw [hb]; exact d4) hRframes (by simp only [List.map_cons, List.sum_cons, hcat]; omega)
  have Z0 := Stand.forget (locs := []) Z (fun y hy => by rw [hL y hy, hhp]; exact Nat.le_refl _)
  obtain ⟨f1, f2⟩ := vx_frame Z0.same
  rw [hhp] at f1 f2
  have hcid : ce.cls = D.1 ci := by
    rw [hcl9]
    have h1 := (hK.1 ci _ hc).2.1
    rw [hvm] at hfX
    exact Option.some.inj (hfX.symm.trans h1)
  have hh : (V.setCell T.heap.size ce).heap[T.heap.size]? = some ce := heapAt_setCell_self (s := V) ce hlt
  subst hA'
  have X5 := vx_back9 X Y Z0
  have X6 : Stand p l e R s m args below meth c (V.setCell T.heap.size ce) locs (cells + 1) (slots + 6) := { X5 with same := X5.same.mono (by omega) (by omega) }
  have hk9 : ∀ (k : Nat) (x : Nat × va_E), ws[k]? = some x → (V.setCell T.heap.size ce).heap[x.1]? = T.heap[x.1]? := fun k x hx => f2 x.1 ((hP k x hx).lt) (fun z hz => nomatch hz)
  obtain ⟨t, a1, b1⟩ := kk T.heap.size (V.setCell T.heap.size ce).heap ((hP.kept hk9).app (fun k x hx => by
      have hz : k < 1 := (List.getElem?_eq_some_iff.mp hx).1
      rw [show k = 0 by omega] at hx
      cases hx
      exact ⟨_, hc, ce, hh, hcid, hvm9, fun k hk => absurd hk (Nat.not_lt_zero k)⟩)) (hD.push hP rfl (hA _ hS.1)) ⟨Nat.le_trans hS.1 f1, fun q h1 h2 => (f2 q (Nat.lt_of_lt_of_le h1 hS.1) (fun z hz => nomatch hz)).trans (hS.2.1 q h1 h2), hS.2.2⟩ _ rfl X6
  refine ⟨t, st1 _ ?_, b1⟩
  show Steps p.tables e below (T1.setTop { method := m, pc := pc + 3, locals := ls, stack := .ref T.heap.size :: rest, locked := none }) _
  jvm_step X₁.here [X₁.here.top, hexec, d3', Value.category]
  exact st _ a1
/-- 'throw x' of an object that was made before -/
theorem vx_athrow {cc : ByteArray} {pc : Nat} (hexec : p.tables.exec = Jvm.exec) (hb : c.code = cc) {q : Addr} (hdg : decode cc pc = .ok (.athrow, 1)) (k : vx_W p l e R s m args below meth c H locs cells slots Q (F0 m pc ls rest) q) : W p l e R s m args below meth c H locs cells slots Q (F0 m pc ls (.ref q :: rest)) := by
  intro T hT X
  obtain ⟨t, st, hq⟩ := k T hT X
  refine ⟨t, ?_, hq⟩
  have hdg' : decode c.code pc = .ok (.athrow, 1) := by rw [hb]; exact hdg
  jvm_step X.here [X.here.top, hexec, hdg', athrow.wp_sem]
  exact st
end VXK2
/-! ===== END ===== -/
/-! ===== BEGIN a constructor that throws (launches without stack traces) ===== -/
section VXIA
variable {p : Program} {l : Launch} {e : Env} {R : Room} {s : State} {m : MethodId} {args : Array Value} {below : List Frame} {meth : Method} {c : Code} {T : State} {locs : List Loc} {cells slots : Nat}
theorem vx_callI (X : Stand p l e R s m args below meth c T locs cells slots) (hexec : p.tables.exec = Jvm.exec) {own : String} {index : Nat} {y : MethodName} {bytes : ByteArray} {maxL : Nat}
    (hown : s.vm.findClass own = some m.cls) (hy1 : y.name = "<init>") (hlink : (Cond.methodLink own index y).before args s = true) (hinst : (Cond.instanceMethod y).before args s = true)
    (hcode : (Cond.code y bytes maxL none).before args s = true) (hy : y.cls ≠ "java/lang/invoke/MethodHandle" ∧ y.cls ≠ "java/lang/invoke/VarHandle")
    {W9 : Nat} {Pre : Pt → Array Value → Prop} {Post : Pt → Array Value → Option Value → Pt → Prop} {PostX : Pt → Array Value → Addr → Pt → Prop} (hK : vx_Back l R p e below s args y 3 W9 Pre Post PostX)
    {g : JFrame} (hg : g.method = m) (hsize : g.locals.size = c.maxLocals) {a : Addr} {argsL rest : List Value} (hlen : ∀ sig, parseMethodDescriptor y.desc = some sig → argsL.length = sig.parameters.length)
    (hstack : g.stack = argsL.reverse ++ .ref a :: rest) (hW : 2 * g.monitorRoom + (rest.map fun v => v.category).sum ≤ W9) (hdg : decode c.code g.pc = .ok (.invokespecial index, 3))
    (hpre : ∀ vm₁, s.WarmedH vm₁ → Pre ⟨T.setVm vm₁, locs, cells, slots⟩ (Value.ref a :: argsL).toArray) :
    (∃ (v : Option Value) (vm₁ : Vm) (B : Pt), s.WarmedH vm₁ ∧ Stand p l e R s m args below meth c B.U B.locs B.cells B.slots ∧ Post ⟨T.setVm vm₁, locs, cells, slots⟩ (Value.ref a :: argsL).toArray v B ∧
      ∀ target, Steps p.tables e below (B.U.setTop { g with pc := g.pc + 3, stack := v.toList ++ rest }) target → Steps p.tables e below (T.setTop g) target) ∨
    (∃ (q : Addr) (vm₁ : Vm) (B : Pt), s.WarmedH vm₁ ∧ Stand p l e R s m args below meth c B.U B.locs B.cells B.slots ∧ PostX ⟨T.setVm vm₁, locs, cells, slots⟩ (Value.ref a :: argsL).toArray q B ∧
      Steps p.tables e below (T.setTop g) ((B.U.setTop { g with stack := rest }).pushFrame (.throwing q))) := by
  subst hg
  have hpl : e.platform.magicAccessors = ({} : Platform).magicAccessors := by rw [X.admits.platform]
  obtain ⟨mk, methM, cM, kP, vm₁, hnamed, hmethM, hcodeM, -, hlocalsM, -, hkP, -, hW₁, hstep₁⟩ := Steps.initColdArgs (e := e) X.here hexec X.warmed hpl hown hy1 hy hlink hinst hcode (f := g) rfl hlen hstack hdg
  have X₁ := X.noted hW₁
  rcases hK g.method meth c ⟨T.setVm vm₁, locs, cells, slots⟩ { g with stack := rest } (.invokespecial index) mk (Value.ref a :: argsL).toArray X₁ rfl hsize hdg hW (X₁.named hnamed) (hpre vm₁ X₁.warmed) with ⟨v, B, X', hpost, hsteps⟩ | ⟨q, B, X', hpost, hsteps⟩
  · exact Or.inl ⟨v, vm₁, B, X₁.warmed, X', hpost, fun target h => hstep₁ _ fun acts => by rw [doInvoke_state]; exact hsteps.trans h⟩
  · exact Or.inr ⟨q, vm₁, B, X₁.warmed, X', hpost, hstep₁ _ fun acts => by rw [doInvoke_state]; exact hsteps⟩
end VXIA
section VXIB
variable {p : Program} {l : Launch} {e : Env} {R : Room} {s : State} {m : MethodId} {args : Array Value} {below : List Frame} {meth : Method} {c : Code} {H : Heap} {locs : List Loc} {cells slots : Nat}
variable {y : MethodName} {bytes cc : ByteArray} {maxL nL mc ms n index : Nat} {ret : Option FieldType} {ws : List Cond} {rm : Room} {Pc : Array Value → State → Prop} {Qc : Array Value → State → Outcome → State → Prop} {XC : String → State → State → Prop} {free : Addr → Prop} {Ts : List Cond} {own C : String} {b : Addr} {As rest : List Value} {g : JFrame}
theorem vx_runI (S : CallFix p m c cc nL s args Ts own) (hM : vx_Met l y ws rm Pc Qc XC mc ms free) (cw : CallB R s args own index y bytes maxL none ws rm mc ms n ∧ y.name = "<init>" ∧ (Cond.instanceMethod y).before args s = true) (hp : PreS s H Pc (.ref b :: As))
    (hg : g.method = m) (hn : As.length = n) (hsize : g.locals.size = nL) (hstack : g.stack = As.reverse ++ .ref b :: rest) (hW : 2 * g.monitorRoom + (rest.map fun v => v.category).sum ≤ 8) (hdg : decode cc g.pc = .ok (.invokespecial index, 3)) (hf : cells + mc ≤ R.cells ∧ slots + ms ≤ R.slots) :
    vx_Run p l e R s m args below meth c H locs cells slots mc ms g rest (Qc (Value.ref b :: As).toArray) XC free := by
  have hK : vx_Back l R p e below s args y 3 8 (PreOf R mc ms Pc) (PostOf Qc mc ms free) (vx_Post XC mc ms free) := vx_callBack cw.1 hM hp.1
  obtain ⟨⟨-, -, -, -, -, -, hcode, -, hy, hlen, hl⟩, hy1, hin⟩ := cw
  obtain ⟨hx, hb, hml, ho, -⟩ := S
  have hPc := hp.2
  intro T hT X
  rcases vx_callI X hx (bytes := bytes) (maxL := maxL) ho hy1 hl hin hcode hy hK hg (hsize.trans hml.symm) (a := b) (argsL := As) (rest := rest) (fun sig h => hn.trans (hlen sig h)) hstack hW (by rw [hb]; exact hdg)
    (fun vm₁ hW₁ => ⟨hf.1, hf.2, hPc (T.setVm vm₁) hT hW₁⟩) with ⟨v, vm₁, ⟨U', l2, c2, s2⟩, hW₁, X', ⟨g', mk, t, L, e1, e2, hq, h1, hL, h2, h3⟩, st⟩ | ⟨q, vm₁, ⟨U', l2, c2, s2⟩, hW₁, X', ⟨g', mk, t, L, E, ce, e1, e2, hq, hce, hcv, hcl, h1, hL, h2, h3⟩, st⟩
  · dsimp only [Pt.U, Pt.locs, Pt.cells, Pt.slots] at X' e1 e2 h1 h2 h3 st
    subst h1; subst h2; subst h3
    exact Or.inl ⟨v, (T.setVm vm₁).calling g' mk (Value.ref b :: As).toArray, t, U', L, hT, X', hL, e1, e2, hq, st⟩
  · dsimp only [Pt.U, Pt.locs, Pt.cells, Pt.slots] at X' e1 e2 h1 h2 h3 st hcl
    subst h1; subst h2; subst h3
    exact Or.inr ⟨q, (T.setVm vm₁).calling g' mk (Value.ref b :: As).toArray, t, U', L, E, ce, hT, X', hL, e1, e2, hq, hce, hcv, vx_cls hW₁ hcl, st⟩
end VXIB
/-! ===== END ===== -/
/-! ===== BEGIN a private constructor of a nest mate that throws ===== -/
section VXIC
variable {p : Program} {l : Launch} {e : Env} {R : Room} {s : State} {m : MethodId} {args : Array Value} {below : List Frame} {meth : Method} {c : Code} {T : State} {locs : List Loc} {cells slots : Nat}
theorem vx_callIN (X : Stand p l e R s m args below meth c T locs cells slots) (hexec : p.tables.exec = Jvm.exec) {own : String} {index : Nat} {host : String} {y : MethodName} {bytes : ByteArray} {maxL : Nat}
    (hown : s.vm.findClass own = some m.cls) (hy1 : y.name = "<init>") (hlink : (Cond.methodLinkNest own index y host).before args s = true) (hinst : (Cond.instanceMethod y).before args s = true)
    (hcode : (Cond.code y bytes maxL none).before args s = true) (hy : y.cls ≠ "java/lang/invoke/MethodHandle" ∧ y.cls ≠ "java/lang/invoke/VarHandle")
    {W9 : Nat} {Pre : Pt → Array Value → Prop} {Post : Pt → Array Value → Option Value → Pt → Prop} {PostX : Pt → Array Value → Addr → Pt → Prop} (hK : vx_Back l R p e below s args y 3 W9 Pre Post PostX)
    {g : JFrame} (hg : g.method = m) (hsize : g.locals.size = c.maxLocals) {a : Addr} {argsL rest : List Value} (hlen : ∀ sig, parseMethodDescriptor y.desc = some sig → argsL.length = sig.parameters.length)
    (hstack : g.stack = argsL.reverse ++ .ref a :: rest) (hW : 2 * g.monitorRoom + (rest.map fun v => v.category).sum ≤ W9) (hdg : decode c.code g.pc = .ok (.invokespecial index, 3))
    (hpre : ∀ vm₁, s.WarmedH vm₁ → Pre ⟨T.setVm vm₁, locs, cells, slots⟩ (Value.ref a :: argsL).toArray) :
    (∃ (v : Option Value) (vm₁ : Vm) (B : Pt), s.WarmedH vm₁ ∧ Stand p l e R s m args below meth c B.U B.locs B.cells B.slots ∧ Post ⟨T.setVm vm₁, locs, cells, slots⟩ (Value.ref a :: argsL).toArray v B ∧
      ∀ target, Steps p.tables e below (B.U.setTop { g with pc := g.pc + 3, stack := v.toList ++ rest }) target → Steps p.tables e below (T.setTop g) target) ∨
    (∃ (q : Addr) (vm₁ : Vm) (B : Pt), s.WarmedH vm₁ ∧ Stand p l e R s m args below meth c B.U B.locs B.cells B.slots ∧ PostX ⟨T.setVm vm₁, locs, cells, slots⟩ (Value.ref a :: argsL).toArray q B ∧
      Steps p.tables e below (T.setTop g) ((B.U.setTop { g with stack := rest }).pushFrame (.throwing q))) := by
  subst hg
  have hpl : e.platform.magicAccessors = ({} : Platform).magicAccessors := by rw [X.admits.platform]
  obtain ⟨mk, methM, cM, kP, vm₁, hnamed, hmethM, hcodeM, -, hlocalsM, -, hkP, -, hW₁, hstep₁⟩ := Steps.initColdArgsNest (e := e) X.here hexec X.warmed hpl hown hy1 hy hlink hinst hcode (f := g) rfl hlen hstack hdg
  have X₁ := X.noted hW₁
  rcases hK g.method meth c ⟨T.setVm vm₁, locs, cells, slots⟩ { g with stack := rest } (.invokespecial index) mk (Value.ref a :: argsL).toArray X₁ rfl hsize hdg hW (X₁.named hnamed) (hpre vm₁ X₁.warmed) with ⟨v, B, X', hpost, hsteps⟩ | ⟨q, B, X', hpost, hsteps⟩
  · exact Or.inl ⟨v, vm₁, B, X₁.warmed, X', hpost, fun target h => hstep₁ _ fun acts => by rw [doInvoke_state]; exact hsteps.trans h⟩
  · exact Or.inr ⟨q, vm₁, B, X₁.warmed, X', hpost, hstep₁ _ fun acts => by rw [doInvoke_state]; exact hsteps⟩
end VXIC
section VXID
variable {p : Program} {l : Launch} {e : Env} {R : Room} {s : State} {m : MethodId} {args : Array Value} {below : List Frame} {meth : Method} {c : Code} {H : Heap} {locs : List Loc} {cells slots : Nat}
theorem vx_runIN {y : MethodName} {bytes cc : ByteArray} {maxL nL mc ms n index : Nat} {ws : List Cond} {rm : Room} {Pc : Array Value → State → Prop} {Qc : Array Value → State → Outcome → State → Prop} {XC : String → State → State → Prop} {free : Addr → Prop} {Ts : List Cond} {own host : String} {b : Addr} {As rest : List Value} {g : JFrame}
    (S : CallFix p m c cc nL s args Ts own) (hM : vx_Met l y ws rm Pc Qc XC mc ms free) (cw : va_CN R s args own index y host bytes maxL none ws rm mc ms n ∧ y.name = "<init>" ∧ (Cond.instanceMethod y).before args s = true) (hp : PreS s H Pc (.ref b :: As))
    (hg : g.method = m) (hn : As.length = n) (hsize : g.locals.size = nL) (hstack : g.stack = As.reverse ++ .ref b :: rest) (hW : 2 * g.monitorRoom + (rest.map fun v => v.category).sum ≤ 8) (hdg : decode cc g.pc = .ok (.invokespecial index, 3)) (hf : cells + mc ≤ R.cells ∧ slots + ms ≤ R.slots) :
    vx_Run p l e R s m args below meth c H locs cells slots mc ms g rest (Qc (Value.ref b :: As).toArray) XC free := by
  obtain ⟨⟨⟨hrc, hrs, hfr, hlo, hws, hcw⟩, hcode, hini, hy, hlen, hl⟩, hx1, hx2⟩ := cw
  have hK : vx_Back l R p e below s args y 3 8 (PreOf R mc ms Pc) (PostOf Qc mc ms free) (vx_Post XC mc ms free) := vx_back (bytes := bytes) (maxL := maxL) (ret := none) hM hp.1 hrc hrs hfr hlo hws hcw (fun a' U hW => word_at hW (Or.inl (by first | rfl | simp [Cond.onTables, Cond.keeps, Cond.steady])) hini)
  obtain ⟨hx, hb, hml, ho, -⟩ := S
  have hPc := hp.2
  intro T hT X
  rcases vx_callIN X hx (bytes := bytes) (maxL := maxL) ho hx1 hl hx2 hcode hy hK hg (hsize.trans hml.symm) (a := b) (argsL := As) (rest := rest) (fun sig h => hn.trans (hlen sig h)) hstack hW (by rw [hb]; exact hdg)
    (fun vm₁ hW₁ => ⟨hf.1, hf.2, hPc (T.setVm vm₁) hT hW₁⟩) with ⟨v, vm₁, ⟨U', l2, c2, s2⟩, hW₁, X', ⟨g', mk, t, L, e1, e2, hq, h1, hL, h2, h3⟩, st⟩ | ⟨q, vm₁, ⟨U', l2, c2, s2⟩, hW₁, X', ⟨g', mk, t, L, E, ce, e1, e2, hq, hce, hcv, hcl, h1, hL, h2, h3⟩, st⟩
  · dsimp only [Pt.U, Pt.locs, Pt.cells, Pt.slots] at X' e1 e2 h1 h2 h3 st
    subst h1; subst h2; subst h3
    exact Or.inl ⟨v, (T.setVm vm₁).calling g' mk (Value.ref b :: As).toArray, t, U', L, hT, X', hL, e1, e2, hq, st⟩
  · dsimp only [Pt.U, Pt.locs, Pt.cells, Pt.slots] at X' e1 e2 h1 h2 h3 st hcl
    subst h1; subst h2; subst h3
    exact Or.inr ⟨q, (T.setVm vm₁).calling g' mk (Value.ref b :: As).toArray, t, U', L, E, ce, hT, X', hL, e1, e2, hq, hce, hcv, vx_cls hW₁ hcl, st⟩
end VXID
/-! ===== END ===== -/
/-! ===== BEGIN a method of a class above, found by the receiver, that may throw (follows va_callVU, va_runU of this kit) ===== -/
section
variable {p : Program} {l : Launch} {e : Env} {R : Room} {s : State} {m : MethodId} {args : Array Value} {below : List Frame} {meth : Method} {c : Code} {H : Heap} {locs : List Loc} {cells slots : Nat}
theorem vx_callVU {T : State} {locs : List Loc} {cells slots : Nat} (X : Stand p l e R s m args below meth c T locs cells slots) (hexec : p.tables.exec = Jvm.exec) {own C owner : String} {index : Nat} {x y : MethodName} {bytes : ByteArray} {maxL : Nat} {ret : Option FieldType}
    (hown : s.vm.findClass own = some m.cls) (hlink : (Cond.methodLink own index x).before args s = true) (hsame : (Cond.sameMethod x.cls owner x.name x.desc).before args s = true)
    (hd0 : va_Decl s ⟨owner, x.name, x.desc⟩) (howner : owner ≠ "java/lang/invoke/MethodHandle" ∧ owner ≠ "java/lang/invoke/VarHandle")
    (hsel : (Cond.selects C x y).before args s = true) (hinst : (Cond.instanceMethod y).before args s = true) (hcode : (Cond.code y bytes maxL ret).before args s = true)
    {W : Nat} {Pre : Pt → Array Value → Prop} {Post : Pt → Array Value → Option Value → Pt → Prop} {PostX : Pt → Array Value → Addr → Pt → Prop} (hK : vx_Back l R p e below s args y 3 W Pre Post PostX)
    {b : Addr} {cellB : Cell} (hcell : T.heap[b]? = some cellB) (hobj : cellB.vm.isStatics = false) (hcls : s.vm.findClass C = some cellB.cls)
    {g : JFrame} (hg : g.method = m) (hsize : g.locals.size = c.maxLocals) {argsL rest : List Value} (hlen : ∀ sig, parseMethodDescriptor x.desc = some sig → argsL.length = sig.parameters.length)
    (hstack : g.stack = argsL.reverse ++ .ref b :: rest) (hW : 2 * g.monitorRoom + (rest.map fun v => v.category).sum ≤ W) (hdg : decode c.code g.pc = .ok (.invokevirtual index, 3))
    (hpre : ∀ vm₁, s.WarmedH vm₁ → Pre ⟨T.setVm vm₁, locs, cells, slots⟩ (Value.ref b :: argsL).toArray) :
    (∃ (v : Option Value) (vm₁ : Vm) (B : Pt), s.WarmedH vm₁ ∧ Stand p l e R s m args below meth c B.U B.locs B.cells B.slots ∧ Post ⟨T.setVm vm₁, locs, cells, slots⟩ (Value.ref b :: argsL).toArray v B ∧
      ∀ target, Steps p.tables e below (B.U.setTop { g with pc := g.pc + 3, stack := v.toList ++ rest }) target → Steps p.tables e below (T.setTop g) target) ∨
    (∃ (q : Addr) (vm₁ : Vm) (B : Pt), s.WarmedH vm₁ ∧ Stand p l e R s m args below meth c B.U B.locs B.cells B.slots ∧ PostX ⟨T.setVm vm₁, locs, cells, slots⟩ (Value.ref b :: argsL).toArray q B ∧
      Steps p.tables e below (T.setTop g) ((B.U.setTop { g with stack := rest }).pushFrame (.throwing q))) := by
  obtain ⟨r0, r, hn, hrm, hstR, hsigR⟩ := hd0
  obtain ⟨cn, ck, r1, hcn, hck, hni, hf, hn1⟩ := Cond.sameMethod_found hsame
  cases hn.symm.trans hn1
  obtain ⟨mk, methM, hnamed, hmethM, -, habM⟩ := Cond.instanceMethod_spec hinst
  obtain ⟨c2, r2, m2, q1, q2, q3, q4, kP, hkP, hkPi⟩ := Cond.selects_spec hsel
  cases hcls.symm.trans q1
  cases hf.symm.trans q2
  cases hnamed.symm.trans q3
  have hselP : selectMethod e.platform s.vm cellB.cls r0 = .method mk := by rw [Launch.admits_selectMethod X.admits]; exact q4
  obtain ⟨vm₁, X₁, hstep₁⟩ := X.invokevirtualUp hexec hown hlink hsame howner hn hrm hstR (a := b) (cell := cellB) hcell
    (fun z h => by rw [h] at hobj; cases hobj) hselP hmethM habM hkP hkPi (g := g) hg (argsL := argsL) (rest := rest) (hlen _ hsigR) hstack hdg
  rcases hK m meth c ⟨T.setVm vm₁, locs, cells, slots⟩ { g with stack := rest } (.invokevirtual index) mk (Value.ref b :: argsL).toArray X₁ hg hsize hdg hW (X₁.named hnamed) (hpre vm₁ X₁.warmed) with ⟨v, B, X', hpost, hsteps⟩ | ⟨q, B, X', hpost, hsteps⟩
  · exact Or.inl ⟨v, vm₁, B, X₁.warmed, X', hpost, fun target h => hstep₁ _ fun acts => by rw [doInvoke_state]; exact hsteps.trans h⟩
  · exact Or.inr ⟨q, vm₁, B, X₁.warmed, X', hpost, hstep₁ _ fun acts => by rw [doInvoke_state]; exact hsteps⟩
theorem vx_runU {x y : MethodName} {bytes cc : ByteArray} {maxL nL mc ms n index : Nat} {ret : Option FieldType} {ws : List Cond} {rm : Room} {Pc : Array Value → State → Prop} {Qc : Array Value → State → Outcome → State → Prop} {XC : String → State → State → Prop} {free : Addr → Prop} {Ts : List Cond} {own C owner : String} {b : Addr} {As rest : List Value} {g : JFrame}
    (S : CallFix p m c cc nL s args Ts own) (hM : vx_Met l y ws rm Pc Qc XC mc ms free) (cw : va_CU R s args own C owner index x y bytes maxL ret ws rm mc ms n) (hp : PreV s H C b Pc As)
    (hg : g.method = m) (hn : As.length = n) (hsize : g.locals.size = nL) (hstack : g.stack = As.reverse ++ .ref b :: rest) (hW : 2 * g.monitorRoom + (rest.map fun v => v.category).sum ≤ 8) (hdg : decode cc g.pc = .ok (.invokevirtual index, 3)) (hf : cells + mc ≤ R.cells ∧ slots + ms ≤ R.slots) :
    vx_Run p l e R s m args below meth c H locs cells slots mc ms g rest (Qc (Value.ref b :: As).toArray) XC free := by
  obtain ⟨hrc, hrs, hfr, hlo, hws, hcw⟩ := cw.back
  have hini := cw.init
  have hK : vx_Back l R p e below s args y 3 8 (PreOf R mc ms Pc) (PostOf Qc mc ms free) (vx_Post XC mc ms free) := vx_back (bytes := bytes) (maxL := maxL) (ret := ret) hM hp.1 hrc hrs hfr hlo hws hcw (fun a' U hW => word_at hW (Or.inl (by first | rfl | simp [Cond.onTables, Cond.keeps, Cond.steady])) hini)
  obtain ⟨hx, hb, hml, ho, -⟩ := S
  obtain ⟨-, ⟨cellB, hcB, hoB, hclB⟩, hPc⟩ := hp
  intro T hT X
  rcases vx_callVU X hx (C := C) (owner := owner) (bytes := bytes) (maxL := maxL) (ret := ret) ho cw.link cw.same cw.decl cw.notMH cw.sel cw.inst cw.code hK (by rw [hT]; exact hcB) hoB hclB hg (hsize.trans hml.symm) (argsL := As) (rest := rest) (fun sig h => hn.trans (cw.len sig h)) hstack hW (by rw [hb]; exact hdg)
    (fun vm₁ hW₁ => ⟨hf.1, hf.2, hPc (T.setVm vm₁) hT hW₁⟩) with ⟨v, vm₁, ⟨U', l2, c2, s2⟩, hW₁, X', ⟨g', mk, t, L, e1, e2, hq, h1, hL, h2, h3⟩, st⟩ | ⟨q, vm₁, ⟨U', l2, c2, s2⟩, hW₁, X', ⟨g', mk, t, L, E, ce, e1, e2, hq, hce, hcv, hcl, h1, hL, h2, h3⟩, st⟩
  · dsimp only [Pt.U, Pt.locs, Pt.cells, Pt.slots] at X' e1 e2 h1 h2 h3 st
    subst h1; subst h2; subst h3
    exact Or.inl ⟨v, (T.setVm vm₁).calling g' mk (Value.ref b :: As).toArray, t, U', L, hT, X', hL, e1, e2, hq, st⟩
  · dsimp only [Pt.U, Pt.locs, Pt.cells, Pt.slots] at X' e1 e2 h1 h2 h3 st hcl
    subst h1; subst h2; subst h3
    exact Or.inr ⟨q, (T.setVm vm₁).calling g' mk (Value.ref b :: As).toArray, t, U', L, E, ce, hT, X', hL, e1, e2, hq, hce, hcv, vx_cls hW₁ hcl, st⟩
end
/-! ===== END ===== -/
/-! ===== BEGIN super.m(..) that may throw (follows va_callSU, va_runSU) ===== -/
section
variable {p : Program} {l : Launch} {e : Env} {R : Room} {s : State} {m : MethodId} {args : Array Value} {below : List Frame} {meth : Method} {c : Code} {H : Heap} {locs : List Loc} {cells slots : Nat}
theorem vx_callSU {T : State} {locs : List Loc} {cells slots : Nat} (X : Stand p l e R s m args below meth c T locs cells slots) (hexec : p.tables.exec = Jvm.exec) {own : String} {index : Nat} {y : MethodName} {bytes : ByteArray} {maxL : Nat} {ret : Option FieldType}
    (hown : s.vm.findClass own = some m.cls) (hlink : (Cond.methodLink own index y).before args s = true) (hsame : (Cond.sameMethod y.cls y.cls y.name y.desc).before args s = true) (hsup : (Cond.superclass own y.cls).before args s = true)
    (hinst : (Cond.instanceMethod y).before args s = true) (hcode : (Cond.code y bytes maxL ret).before args s = true) (hno : y.name ≠ "<init>")
    {W : Nat} {Pre : Pt → Array Value → Prop} {Post : Pt → Array Value → Option Value → Pt → Prop} {PostX : Pt → Array Value → Addr → Pt → Prop} (hK : vx_Back l R p e below s args y 3 W Pre Post PostX)
    {b : Addr} {cellB : Cell} {kB : Class} (hcell : T.heap[b]? = some cellB) (hobj : cellB.vm.isStatics = false) (hkB : s.vm.classes[cellB.cls]? = some kB)
    {g : JFrame} (hg : g.method = m) (hsize : g.locals.size = c.maxLocals) {argsL rest : List Value} (hlen : ∀ sig, parseMethodDescriptor y.desc = some sig → argsL.length = sig.parameters.length)
    (hstack : g.stack = argsL.reverse ++ .ref b :: rest) (hW : 2 * g.monitorRoom + (rest.map fun v => v.category).sum ≤ W) (hdg : decode c.code g.pc = .ok (.invokespecial index, 3))
    (hpre : ∀ vm₁, s.WarmedH vm₁ → Pre ⟨T.setVm vm₁, locs, cells, slots⟩ (Value.ref b :: argsL).toArray) :
    (∃ (v : Option Value) (vm₁ : Vm) (B : Pt), s.WarmedH vm₁ ∧ Stand p l e R s m args below meth c B.U B.locs B.cells B.slots ∧ Post ⟨T.setVm vm₁, locs, cells, slots⟩ (Value.ref b :: argsL).toArray v B ∧
      ∀ target, Steps p.tables e below (B.U.setTop { g with pc := g.pc + 3, stack := v.toList ++ rest }) target → Steps p.tables e below (T.setTop g) target) ∨
    (∃ (q : Addr) (vm₁ : Vm) (B : Pt), s.WarmedH vm₁ ∧ Stand p l e R s m args below meth c B.U B.locs B.cells B.slots ∧ PostX ⟨T.setVm vm₁, locs, cells, slots⟩ (Value.ref b :: argsL).toArray q B ∧
      Steps p.tables e below (T.setTop g) ((B.U.setTop { g with stack := rest }).pushFrame (.throwing q))) := by
  obtain ⟨mk, methM, hnamed, hmethM, hstM, habM⟩ := Cond.instanceMethod_spec hinst
  obtain ⟨methM', cM, hmethM', -, -, -, -, -, -, hsigM⟩ := Cond.code_spec hnamed hcode
  cases hmethM.symm.trans hmethM'
  obtain ⟨ps, dk, kp, hps, hdk, hkp, hsuper, -, -, hnid⟩ := Cond.superclass_spec hown hsup
  have hn : s.methodNamed? ⟨y.cls, y.name, y.desc⟩ = some mk := hnamed
  have hpm : ps = mk.cls := Option.some.inj (hps.symm.trans (findClass_of_methodNamed hnamed))
  have hsub : s.vm.isSubclass ps mk.cls = true := by rw [hpm]; simp [Vm.isSubclass, Vm.isSubclassAux]
  obtain ⟨vm₁, X₁, hstep₁⟩ := X.invokespecialUp hexec hown hlink hsame hn hmethM hstM habM hno hdk hnid hps hsuper hsub (a := b) (cell := cellB) hcell
    (fun z h => by rw [h] at hobj; cases hobj) hkB (g := g) hg (argsL := argsL) (rest := rest) (hlen _ hsigM) hstack hdg
  rcases hK m meth c ⟨T.setVm vm₁, locs, cells, slots⟩ { g with stack := rest } (.invokespecial index) mk (Value.ref b :: argsL).toArray X₁ hg hsize hdg hW (X₁.named hnamed) (hpre vm₁ X₁.warmed) with ⟨v, B, X', hpost, hsteps⟩ | ⟨q, B, X', hpost, hsteps⟩
  · exact Or.inl ⟨v, vm₁, B, X₁.warmed, X', hpost, fun target h => hstep₁ _ (by rw [doInvoke_state]; exact hsteps.trans h)⟩
  · exact Or.inr ⟨q, vm₁, B, X₁.warmed, X', hpost, hstep₁ _ (by rw [doInvoke_state]; exact hsteps)⟩
theorem vx_runSU {y : MethodName} {bytes cc : ByteArray} {maxL nL mc ms n index : Nat} {ret : Option FieldType} {ws : List Cond} {rm : Room} {Pc : Array Value → State → Prop} {Qc : Array Value → State → Outcome → State → Prop} {XC : String → State → State → Prop} {free : Addr → Prop} {Ts : List Cond} {own C : String} {cC : ClassId} {b : Addr} {As rest : List Value} {g : JFrame}
    (hat : ClassAt s C cC) (S : CallFix p m c cc nL s args Ts own) (hM : vx_Met l y ws rm Pc Qc XC mc ms free) (cw : va_CS R s args own index y bytes maxL ret ws rm mc ms n) (hp : PreV s H C b Pc As)
    (hg : g.method = m) (hn : As.length = n) (hsize : g.locals.size = nL) (hstack : g.stack = As.reverse ++ .ref b :: rest) (hW : 2 * g.monitorRoom + (rest.map fun v => v.category).sum ≤ 8) (hdg : decode cc g.pc = .ok (.invokespecial index, 3)) (hf : cells + mc ≤ R.cells ∧ slots + ms ≤ R.slots) :
    vx_Run p l e R s m args below meth c H locs cells slots mc ms g rest (Qc (Value.ref b :: As).toArray) XC free := by
  obtain ⟨⟨hrc, hrs, hfr, hlo, hws, hcw⟩, hl1, hl2, hl3, hl4, hini, hcode, hno, hlen⟩ := cw
  have hK : vx_Back l R p e below s args y 3 8 (PreOf R mc ms Pc) (PostOf Qc mc ms free) (vx_Post XC mc ms free) := vx_back (bytes := bytes) (maxL := maxL) (ret := ret) hM hp.1 hrc hrs hfr hlo hws hcw (fun a' U hW => word_at hW (Or.inl (by first | rfl | simp [Cond.onTables, Cond.keeps, Cond.steady])) hini)
  obtain ⟨hx, hb, hml, ho, -⟩ := S
  obtain ⟨-, ⟨cellB, hcB, hoB, hclB⟩, hPc⟩ := hp
  obtain ⟨hfc, kB, hkB, -⟩ := hat
  cases hfc.symm.trans hclB
  intro T hT X
  rcases vx_callSU X hx (bytes := bytes) (maxL := maxL) (ret := ret) ho hl1 hl2 hl3 hl4 hcode hno hK (by rw [hT]; exact hcB) hoB hkB hg (hsize.trans hml.symm) (argsL := As) (rest := rest) (fun sig h => hn.trans (hlen sig h)) hstack hW (by rw [hb]; exact hdg)
    (fun vm₁ hW₁ => ⟨hf.1, hf.2, hPc (T.setVm vm₁) hT hW₁⟩) with ⟨v, vm₁, ⟨U', l2, c2, s2⟩, hW₁, X', ⟨g', mk, t, L, e1, e2, hq, h1, hL, h2, h3⟩, st⟩ | ⟨q, vm₁, ⟨U', l2, c2, s2⟩, hW₁, X', ⟨g', mk, t, L, E, ce, e1, e2, hq, hce, hcv, hcl, h1, hL, h2, h3⟩, st⟩
  · dsimp only [Pt.U, Pt.locs, Pt.cells, Pt.slots] at X' e1 e2 h1 h2 h3 st
    subst h1; subst h2; subst h3
    exact Or.inl ⟨v, (T.setVm vm₁).calling g' mk (Value.ref b :: As).toArray, t, U', L, hT, X', hL, e1, e2, hq, st⟩
  · dsimp only [Pt.U, Pt.locs, Pt.cells, Pt.slots] at X' e1 e2 h1 h2 h3 st hcl
    subst h1; subst h2; subst h3
    exact Or.inr ⟨q, (T.setVm vm₁).calling g' mk (Value.ref b :: As).toArray, t, U', L, E, ce, hT, X', hL, e1, e2, hq, hce, hcv, vx_cls hW₁ hcl, st⟩
end
/-! ===== END ===== -/
/-! ===== BEGIN a private method of a nest mate that may throw (follows va_callVN, va_callSN, va_runVN, va_runSN) ===== -/
section
variable {p : Program} {l : Launch} {e : Env} {R : Room} {s : State} {m : MethodId} {args : Array Value} {below : List Frame} {meth : Method} {c : Code} {H : Heap} {locs : List Loc} {cells slots : Nat}
variable {T : State}
theorem vx_callVN (X : Stand p l e R s m args below meth c T locs cells slots) (hexec : p.tables.exec = Jvm.exec) {own C : String} {index : Nat} {host : String} {y : MethodName} {bytes : ByteArray} {maxL : Nat} {ret : Option FieldType}
    (hown : s.vm.findClass own = some m.cls) (hlink : (Cond.methodLinkNest own index y host).before args s = true) (hinst : (Cond.instanceMethod y).before args s = true) (hsel : (Cond.selects C y y).before args s = true)
    (hcode : (Cond.code y bytes maxL ret).before args s = true) (hy : y.cls ≠ "java/lang/invoke/MethodHandle" ∧ y.cls ≠ "java/lang/invoke/VarHandle")
    {W : Nat} {Pre : Pt → Array Value → Prop} {Post : Pt → Array Value → Option Value → Pt → Prop} {PostX : Pt → Array Value → Addr → Pt → Prop} (hK : vx_Back l R p e below s args y 3 W Pre Post PostX)
    {b : Addr} {cellB : Cell} (hcell : T.heap[b]? = some cellB) (hobj : cellB.vm.isStatics = false) (hcls : s.vm.findClass C = some cellB.cls)
    {g : JFrame} (hg : g.method = m) (hsize : g.locals.size = c.maxLocals) {argsL rest : List Value} (hlen : ∀ sig, parseMethodDescriptor y.desc = some sig → argsL.length = sig.parameters.length)
    (hstack : g.stack = argsL.reverse ++ .ref b :: rest) (hW : 2 * g.monitorRoom + (rest.map fun v => v.category).sum ≤ W) (hdg : decode c.code g.pc = .ok (.invokevirtual index, 3))
    (hpre : ∀ vm₁, s.WarmedH vm₁ → Pre ⟨T.setVm vm₁, locs, cells, slots⟩ (Value.ref b :: argsL).toArray) :
    (∃ (v : Option Value) (vm₁ : Vm) (B : Pt), s.WarmedH vm₁ ∧ Stand p l e R s m args below meth c B.U B.locs B.cells B.slots ∧ Post ⟨T.setVm vm₁, locs, cells, slots⟩ (Value.ref b :: argsL).toArray v B ∧
      ∀ target, Steps p.tables e below (B.U.setTop { g with pc := g.pc + 3, stack := v.toList ++ rest }) target → Steps p.tables e below (T.setTop g) target) ∨
    (∃ (q : Addr) (vm₁ : Vm) (B : Pt), s.WarmedH vm₁ ∧ Stand p l e R s m args below meth c B.U B.locs B.cells B.slots ∧ PostX ⟨T.setVm vm₁, locs, cells, slots⟩ (Value.ref b :: argsL).toArray q B ∧
      Steps p.tables e below (T.setTop g) ((B.U.setTop { g with stack := rest }).pushFrame (.throwing q))) := by
  obtain ⟨mk, methM, hnamed, hmethM, hstM, habM⟩ := Cond.instanceMethod_spec hinst
  obtain ⟨methM', cM, hmethM', -, -, -, -, -, -, hsigM⟩ := Cond.code_spec hnamed hcode
  cases hmethM.symm.trans hmethM'
  obtain ⟨c2, r2, m2, q1, q2, q3, q4, kP, hkP, hkPi⟩ := Cond.selects_spec hsel
  cases hcls.symm.trans q1
  cases (State.methodFound?_of_named hnamed hy).symm.trans q2
  cases hnamed.symm.trans q3
  have hselP : selectMethod e.platform s.vm cellB.cls mk = .method mk := by rw [Launch.admits_selectMethod X.admits]; exact q4
  obtain ⟨vm₁, X₁, hstep₁⟩ := X.invokevirtualNest hexec hown hlink hnamed hmethM hstM hkP hkPi hy (a := b) (cell := cellB) hcell
    (fun z h => by rw [h] at hobj; cases hobj) hselP hmethM habM hkP hkPi (g := g) hg (argsL := argsL) (rest := rest) (hlen _ hsigM) hstack hdg
  rcases hK m meth c ⟨T.setVm vm₁, locs, cells, slots⟩ { g with stack := rest } (.invokevirtual index) mk (Value.ref b :: argsL).toArray X₁ hg hsize hdg hW (X₁.named hnamed) (hpre vm₁ X₁.warmed) with ⟨v, B, X', hpost, hsteps⟩ | ⟨q, B, X', hpost, hsteps⟩
  · exact Or.inl ⟨v, vm₁, B, X₁.warmed, X', hpost, fun target h => hstep₁ _ fun acts => by rw [doInvoke_state]; exact hsteps.trans h⟩
  · exact Or.inr ⟨q, vm₁, B, X₁.warmed, X', hpost, hstep₁ _ fun acts => by rw [doInvoke_state]; exact hsteps⟩
theorem vx_callSN (X : Stand p l e R s m args below meth c T locs cells slots) (hexec : p.tables.exec = Jvm.exec) {own : String} {index : Nat} {host : String} {y : MethodName} {bytes : ByteArray} {maxL : Nat} {ret : Option FieldType}
    (hown : s.vm.findClass own = some m.cls) (hlink : (Cond.methodLinkNest own index y host).before args s = true) (hstat : (Cond.static y).before args s = true) (hinit : (Cond.initialized y.cls).before args s = true)
    (hcode : (Cond.code y bytes maxL ret).before args s = true) (hy : y.cls ≠ "java/lang/invoke/MethodHandle" ∧ y.cls ≠ "java/lang/invoke/VarHandle")
    {W : Nat} {Pre : Pt → Array Value → Prop} {Post : Pt → Array Value → Option Value → Pt → Prop} {PostX : Pt → Array Value → Addr → Pt → Prop} (hK : vx_Back l R p e below s args y 3 W Pre Post PostX)
    {g : JFrame} (hg : g.method = m) (hsize : g.locals.size = c.maxLocals) {argsL rest : List Value} (hlen : ∀ sig, parseMethodDescriptor y.desc = some sig → argsL.length = sig.parameters.length)
    (hstack : g.stack = argsL.reverse ++ rest) (hW : 2 * g.monitorRoom + (rest.map fun v => v.category).sum ≤ W) (hdg : decode c.code g.pc = .ok (.invokestatic index, 3))
    (hpre : ∀ vm₁, s.WarmedH vm₁ → Pre ⟨T.setVm vm₁, locs, cells, slots⟩ argsL.toArray) :
    (∃ (v : Option Value) (vm₁ : Vm) (B : Pt), s.WarmedH vm₁ ∧ Stand p l e R s m args below meth c B.U B.locs B.cells B.slots ∧ Post ⟨T.setVm vm₁, locs, cells, slots⟩ argsL.toArray v B ∧
      ∀ target, Steps p.tables e below (B.U.setTop { g with pc := g.pc + 3, stack := v.toList ++ rest }) target → Steps p.tables e below (T.setTop g) target) ∨
    (∃ (q : Addr) (vm₁ : Vm) (B : Pt), s.WarmedH vm₁ ∧ Stand p l e R s m args below meth c B.U B.locs B.cells B.slots ∧ PostX ⟨T.setVm vm₁, locs, cells, slots⟩ argsL.toArray q B ∧
      Steps p.tables e below (T.setTop g) ((B.U.setTop { g with stack := rest }).pushFrame (.throwing q))) := by
  obtain ⟨mk, hnamed⟩ := Cond.code_named hcode
  obtain ⟨methM, cM, hmethM, -, -, -, -, -, -, hsigM⟩ := Cond.code_spec hnamed hcode
  have hstatic : methM.isStatic = true := Cond.static_spec hnamed hmethM hstat
  obtain ⟨kP, hkP, -⟩ := className_of_methodNamed hnamed
  have hinitP : kP.init = .initialized := Cond.initialized_spec (findClass_of_methodNamed hnamed) hkP hinit
  obtain ⟨vm₁, X₁, hstep₁⟩ := X.invokestaticNest hexec hown hlink hnamed hmethM hstatic hkP hinitP hy (g := g) hg (argsL := argsL) (rest := rest) (hlen _ hsigM) hstack hdg
  rcases hK m meth c ⟨T.setVm vm₁, locs, cells, slots⟩ { g with stack := rest } (.invokestatic index) mk argsL.toArray X₁ hg hsize hdg hW (X₁.named hnamed) (hpre vm₁ X₁.warmed) with ⟨v, B, X', hpost, hsteps⟩ | ⟨q, B, X', hpost, hsteps⟩
  · exact Or.inl ⟨v, vm₁, B, X₁.warmed, X', hpost, fun target h => hstep₁ _ fun acts => by rw [doInvoke_state]; exact hsteps.trans h⟩
  · exact Or.inr ⟨q, vm₁, B, X₁.warmed, X', hpost, hstep₁ _ fun acts => by rw [doInvoke_state]; exact hsteps⟩
theorem vx_runVN {y : MethodName} {bytes cc : ByteArray} {maxL nL mc ms n index : Nat} {ret : Option FieldType} {ws : List Cond} {rm : Room} {Pc : Array Value → State → Prop} {Qc : Array Value → State → Outcome → State → Prop} {XC : String → State → State → Prop} {free : Addr → Prop} {Ts : List Cond} {own C host : String} {b : Addr} {As rest : List Value} {g : JFrame}
    (S : CallFix p m c cc nL s args Ts own) (hM : vx_Met l y ws rm Pc Qc XC mc ms free) (cw : va_CN R s args own index y host bytes maxL ret ws rm mc ms n ∧ (Cond.instanceMethod y).before args s = true ∧ (Cond.selects C y y).before args s = true) (hp : PreV s H C b Pc As)
    (hg : g.method = m) (hn : As.length = n) (hsize : g.locals.size = nL) (hstack : g.stack = As.reverse ++ .ref b :: rest) (hW : 2 * g.monitorRoom + (rest.map fun v => v.category).sum ≤ 8) (hdg : decode cc g.pc = .ok (.invokevirtual index, 3)) (hf : cells + mc ≤ R.cells ∧ slots + ms ≤ R.slots) :
    vx_Run p l e R s m args below meth c H locs cells slots mc ms g rest (Qc (Value.ref b :: As).toArray) XC free := by
  obtain ⟨⟨⟨hrc, hrs, hfr, hlo, hws, hcw⟩, hcode, hini, hy, hlen, hl⟩, hx1, hx2⟩ := cw
  have hK : vx_Back l R p e below s args y 3 8 (PreOf R mc ms Pc) (PostOf Qc mc ms free) (vx_Post XC mc ms free) := vx_back (bytes := bytes) (maxL := maxL) (ret := ret) hM hp.1 hrc hrs hfr hlo hws hcw (fun a' U hW => word_at hW (Or.inl (by first | rfl | simp [Cond.onTables, Cond.keeps, Cond.steady])) hini)
  obtain ⟨hx, hb, hml, ho, -⟩ := S
  obtain ⟨-, ⟨cellB, hcB, hoB, hclB⟩, hPc⟩ := hp
  intro T hT X
  rcases vx_callVN X hx (C := C) (bytes := bytes) (maxL := maxL) (ret := ret) ho hl hx1 hx2 hcode hy hK (by rw [hT]; exact hcB) hoB hclB hg (hsize.trans hml.symm) (argsL := As) (rest := rest) (fun sig h => hn.trans (hlen sig h)) hstack hW (by rw [hb]; exact hdg)
    (fun vm₁ hW₁ => ⟨hf.1, hf.2, hPc (T.setVm vm₁) hT hW₁⟩) with ⟨v, vm₁, ⟨U', l2, c2, s2⟩, hW₁, X', ⟨g', mk, t, L, e1, e2, hq, h1, hL, h2, h3⟩, st⟩ | ⟨q, vm₁, ⟨U', l2, c2, s2⟩, hW₁, X', ⟨g', mk, t, L, E, ce, e1, e2, hq, hce, hcv, hcl, h1, hL, h2, h3⟩, st⟩
  · dsimp only [Pt.U, Pt.locs, Pt.cells, Pt.slots] at X' e1 e2 h1 h2 h3 st
    subst h1; subst h2; subst h3
    exact Or.inl ⟨v, (T.setVm vm₁).calling g' mk (Value.ref b :: As).toArray, t, U', L, hT, X', hL, e1, e2, hq, st⟩
  · dsimp only [Pt.U, Pt.locs, Pt.cells, Pt.slots] at X' e1 e2 h1 h2 h3 st hcl
    subst h1; subst h2; subst h3
    exact Or.inr ⟨q, (T.setVm vm₁).calling g' mk (Value.ref b :: As).toArray, t, U', L, E, ce, hT, X', hL, e1, e2, hq, hce, hcv, vx_cls hW₁ hcl, st⟩
theorem vx_runSN {y : MethodName} {bytes cc : ByteArray} {maxL nL mc ms n index : Nat} {ret : Option FieldType} {ws : List Cond} {rm : Room} {Pc : Array Value → State → Prop} {Qc : Array Value → State → Outcome → State → Prop} {XC : String → State → State → Prop} {free : Addr → Prop} {Ts : List Cond} {own host : String} {As rest : List Value} {g : JFrame}
    (S : CallFix p m c cc nL s args Ts own) (hM : vx_Met l y ws rm Pc Qc XC mc ms free) (cw : va_CN R s args own index y host bytes maxL ret ws rm mc ms n ∧ (Cond.static y).before args s = true ∧ True) (hp : PreS s H Pc As)
    (hg : g.method = m) (hn : As.length = n) (hsize : g.locals.size = nL) (hstack : g.stack = As.reverse ++ rest) (hW : 2 * g.monitorRoom + (rest.map fun v => v.category).sum ≤ 8) (hdg : decode cc g.pc = .ok (.invokestatic index, 3)) (hf : cells + mc ≤ R.cells ∧ slots + ms ≤ R.slots) :
    vx_Run p l e R s m args below meth c H locs cells slots mc ms g rest (Qc As.toArray) XC free := by
  obtain ⟨⟨⟨hrc, hrs, hfr, hlo, hws, hcw⟩, hcode, hini, hy, hlen, hl⟩, hx1, hx2⟩ := cw
  have hK : vx_Back l R p e below s args y 3 8 (PreOf R mc ms Pc) (PostOf Qc mc ms free) (vx_Post XC mc ms free) := vx_back (bytes := bytes) (maxL := maxL) (ret := ret) hM hp.1 hrc hrs hfr hlo hws hcw (fun a' U hW => word_at hW (Or.inl (by first | rfl | simp [Cond.onTables, Cond.keeps, Cond.steady])) hini)
  obtain ⟨hx, hb, hml, ho, -⟩ := S
  have hPc := hp.2
  intro T hT X
  rcases vx_callSN X hx (bytes := bytes) (maxL := maxL) (ret := ret) ho hl hx1 hini hcode hy hK hg (hsize.trans hml.symm) (argsL := As) (rest := rest) (fun sig h => hn.trans (hlen sig h)) hstack hW (by rw [hb]; exact hdg)
    (fun vm₁ hW₁ => ⟨hf.1, hf.2, hPc (T.setVm vm₁) hT hW₁⟩) with ⟨v, vm₁, ⟨U', l2, c2, s2⟩, hW₁, X', ⟨g', mk, t, L, e1, e2, hq, h1, hL, h2, h3⟩, st⟩ | ⟨q, vm₁, ⟨U', l2, c2, s2⟩, hW₁, X', ⟨g', mk, t, L, E, ce, e1, e2, hq, hce, hcv, hcl, h1, hL, h2, h3⟩, st⟩
  · dsimp only [Pt.U, Pt.locs, Pt.cells, Pt.slots] at X' e1 e2 h1 h2 h3 st
    subst h1; subst h2; subst h3
    exact Or.inl ⟨v, (T.setVm vm₁).calling g' mk As.toArray, t, U', L, hT, X', hL, e1, e2, hq, st⟩
  · dsimp only [Pt.U, Pt.locs, Pt.cells, Pt.slots] at X' e1 e2 h1 h2 h3 st hcl
    subst h1; subst h2; subst h3
    exact Or.inr ⟨q, (T.setVm vm₁).calling g' mk As.toArray, t, U', L, E, ce, hT, X', hL, e1, e2, hq, hce, hcv, vx_cls hW₁ hcl, st⟩
end
/-! ===== END ===== -/
/-! ===== BEGIN calls by an interface of methods that may throw (vx_callIF, vx_runF follow va_callIF, va_runF of this kit) ===== -/
section
variable {p : Program} {l : Launch} {e : Env} {R : Room} {s : State} {m : MethodId} {args : Array Value} {below : List Frame} {meth : Method} {c : Code} {H : Heap} {locs : List Loc} {cells slots : Nat} {Q : State → Prop}
variable {mc ms : Nat} {free : Addr → Prop} {A0 A1 : Nat → Prop} {H0 : Heap} {a : Array Value} {pc : Nat} {ls : Array Slot} {st0 rest : List Value}
def vx_Run5 (p : Program) (l : Launch) (e : Env) (R : Room) (s : State) (m : MethodId) (args : Array Value) (below : List Frame) (meth : Method) (c : Code) (H : Heap) (locs : List Loc) (cells slots mc ms : Nat) (g : JFrame) (rest : List Value) (Qa : State → Outcome → State → Prop) (XC : String → State → State → Prop) (free : Addr → Prop) : Prop :=
  ∀ T : State, T.heap = H → Stand p l e R s m args below meth c T locs cells slots →
    (∃ (v : Option Value) (st₀ t T' : State) (L : List Loc), st₀.heap = H ∧ Stand p l e R s m args below meth c T' (locs ++ L) (cells + mc) (slots + ms) ∧ (∀ q ∈ L, free q.base) ∧ T'.heap = t.heap ∧ T'.vm = t.vm ∧ Qa st₀ (.returned v) t ∧
      Goes p e below T g T' { g with pc := g.pc + 5, stack := v.toList ++ rest }) ∨
    (∃ (q : Addr) (st₀ t T' : State) (L : List Loc) (E : String) (ce : Cell), st₀.heap = H ∧ Stand p l e R s m args below meth c T' (locs ++ L) (cells + mc) (slots + ms) ∧ (∀ z ∈ L, free z.base) ∧ T'.heap = t.heap ∧ T'.vm = t.vm ∧ XC E st₀ t ∧ t.heap[q]? = some ce ∧ ce.vm = .none ∧ s.vm.findClass E = some ce.cls ∧
      Steps p.tables e below (T.setTop g) ((T'.setTop { g with stack := rest }).pushFrame (.throwing q)))
theorem vx_callIF {T : State} (X : Stand p l e R s m args below meth c T locs cells slots) (hexec : p.tables.exec = Jvm.exec) {own C : String} {index count : Nat} {x y : MethodName} {bytes : ByteArray} {maxL : Nat} {ret : Option FieldType}
    (hown : s.vm.findClass own = some m.cls) (hlink : (Cond.methodLink own index x).before args s = true) (hdecl : (Cond.declares x).before args s = true) (hface : (Cond.interfaceMethod x.cls x.cls x.name x.desc).before args s = true)
    (hsel : (Cond.selects C x y).before args s = true) (hinst : (Cond.instanceMethod y).before args s = true) (hpub : (Cond.publicMethod y).before args s = true) (hunh : (Cond.unhidden C x.name x.desc).before args s = true)
    (hcast : (Cond.castable C x.cls).before args s = true) (hcode : (Cond.code y bytes maxL ret).before args s = true) (hx : x.cls ≠ "java/lang/invoke/MethodHandle" ∧ x.cls ≠ "java/lang/invoke/VarHandle")
    {W9 : Nat} {Pre : Pt → Array Value → Prop} {Post : Pt → Array Value → Option Value → Pt → Prop} {PostX : Pt → Array Value → Addr → Pt → Prop} (hK : vx_Back l R p e below s args y 5 W9 Pre Post PostX)
    {b : Addr} {cellB : Cell} {kB : Class} (hcell : T.heap[b]? = some cellB) (hobj : cellB.vm.isStatics = false) (hcls : s.vm.findClass C = some cellB.cls) (hkB : s.vm.classes[cellB.cls]? = some kB)
    {g : JFrame} (hg : g.method = m) (hsize : g.locals.size = c.maxLocals) {argsL rest : List Value} (hlen : ∀ sig, parseMethodDescriptor x.desc = some sig → argsL.length = sig.parameters.length)
    (hstack : g.stack = argsL.reverse ++ .ref b :: rest) (hW : 2 * g.monitorRoom + (rest.map fun v => v.category).sum ≤ W9) (hdg : decode c.code g.pc = .ok (.invokeinterface index count, 5))
    (hpre : ∀ vm₁, s.WarmedH vm₁ → Pre ⟨T.setVm vm₁, locs, cells, slots⟩ (Value.ref b :: argsL).toArray) :
    (∃ (v : Option Value) (vm₁ : Vm) (B : Pt), s.WarmedH vm₁ ∧ Stand p l e R s m args below meth c B.U B.locs B.cells B.slots ∧ Post ⟨T.setVm vm₁, locs, cells, slots⟩ (Value.ref b :: argsL).toArray v B ∧
      ∀ target, Steps p.tables e below (B.U.setTop { g with pc := g.pc + 5, stack := v.toList ++ rest }) target → Steps p.tables e below (T.setTop g) target) ∨
    (∃ (q : Addr) (vm₁ : Vm) (B : Pt), s.WarmedH vm₁ ∧ Stand p l e R s m args below meth c B.U B.locs B.cells B.slots ∧ PostX ⟨T.setVm vm₁, locs, cells, slots⟩ (Value.ref b :: argsL).toArray q B ∧
      Steps p.tables e below (T.setTop g) ((B.U.setTop { g with stack := rest }).pushFrame (.throwing q))) := by
  obtain ⟨r0, r, hn, hrm, hstR, hsigR⟩ := Cond.declares_spec hdecl
  obtain ⟨cL, kL, r1, hcL, hkL, hiL, hfoundL, hn1⟩ := Cond.interfaceMethod_spec hface
  cases hn.symm.trans hn1
  have hr0cls : r0.cls = cL := Option.some.inj ((findClass_of_methodNamed hn).symm.trans hcL)
  obtain ⟨hnameR, hdescR⟩ := name_of_methodNamed hn hrm
  obtain ⟨mk, methM, hnamed, hmethM, -, habM⟩ := Cond.instanceMethod_spec hinst
  obtain ⟨c2, r2, m2, q1, q2, q3, q4, -⟩ := Cond.selects_spec hsel
  cases hcls.symm.trans q1
  cases hfoundL.symm.trans q2
  cases hnamed.symm.trans q3
  have hselP : selectMethod e.platform s.vm cellB.cls r0 = .method mk := by rw [Launch.admits_selectMethod X.admits]; exact q4
  have hpubM : hasFlag methM.accessFlags Acc.public_ = true := Cond.publicMethod_spec hnamed hmethM hpub
  have hway : ((cellB.cls :: s.vm.superclasses cellB.cls).any fun k => (declaredIn s.vm r.name r.desc k).any fun (_, z) => z.isPrivate || z.isStatic) = false := by
    rw [hnameR, hdescR]; exact Cond.unhidden_spec hcls hunh
  obtain ⟨c3, t3, w1, w2, w3⟩ := Cond.castable_spec hcast
  cases hcls.symm.trans w1
  cases hcL.symm.trans w2
  obtain ⟨vm₁, X₁, hstep₁⟩ := X.invokeinterface hexec hown hlink hn hrm hstR (by rw [hr0cls]; exact hkL) hiL hx (a := b) (cell := cellB) (kcell := kB) hcell
    (fun z h => by rw [h] at hobj; cases hobj) hkB (by rw [hr0cls]; exact w3) hselP hmethM hway hpubM habM (g := g) hg (argsL := argsL) (rest := rest) (hlen _ hsigR) hstack hdg
  rcases hK m meth c ⟨T.setVm vm₁, locs, cells, slots⟩ { g with stack := rest } (.invokeinterface index count) mk (Value.ref b :: argsL).toArray X₁ hg hsize hdg hW (X₁.named hnamed) (hpre vm₁ X₁.warmed) with ⟨v, B, X', hpost, hsteps⟩ | ⟨q, B, X', hpost, hsteps⟩
  · exact Or.inl ⟨v, vm₁, B, X₁.warmed, X', hpost, fun target h => hstep₁ _ fun acts => by rw [doInvoke_state]; exact hsteps.trans h⟩
  · exact Or.inr ⟨q, vm₁, B, X₁.warmed, X', hpost, hstep₁ _ fun acts => by rw [doInvoke_state]; exact hsteps⟩
theorem vx_runF {x y : MethodName} {bytes cc : ByteArray} {maxL nL mc ms n index count : Nat} {ret : Option FieldType} {ws : List Cond} {rm : Room} {Pc : Array Value → State → Prop} {Qc : Array Value → State → Outcome → State → Prop} {XC : String → State → State → Prop} {free : Addr → Prop} {Ts : List Cond} {own C : String} {cC : ClassId} {b : Addr} {As rest : List Value} {g : JFrame}
    (hat : ClassAt s C cC) (S : CallFix p m c cc nL s args Ts own) (hM : vx_Met l y ws rm Pc Qc XC mc ms free) (cw : va_CI R s args own C index x y bytes maxL ret ws rm mc ms n) (hp : PreV s H C b Pc As)
    (hg : g.method = m) (hn : As.length = n) (hsize : g.locals.size = nL) (hstack : g.stack = As.reverse ++ .ref b :: rest) (hW : 2 * g.monitorRoom + (rest.map fun v => v.category).sum ≤ 8) (hdg : decode cc g.pc = .ok (.invokeinterface index count, 5)) (hf : cells + mc ≤ R.cells ∧ slots + ms ≤ R.slots) :
    vx_Run5 p l e R s m args below meth c H locs cells slots mc ms g rest (Qc (Value.ref b :: As).toArray) XC free := by
  obtain ⟨hrc, hrs, hfr, hlo, hws, hcw⟩ := cw.back
  have hini := cw.init
  have hK : vx_Back l R p e below s args y 5 8 (PreOf R mc ms Pc) (PostOf Qc mc ms free) (vx_Post XC mc ms free) := vx_back (bytes := bytes) (maxL := maxL) (ret := ret) hM hp.1 hrc hrs hfr hlo hws hcw (fun a' U hW => word_at hW (Or.inl (by first | rfl | simp [Cond.onTables, Cond.keeps, Cond.steady])) hini)
  obtain ⟨hx, hb, hml, ho, -⟩ := S
  obtain ⟨-, ⟨cellB, hcB, hoB, hclB⟩, hPc⟩ := hp
  obtain ⟨hfc, kB, hkB, -⟩ := hat
  cases hfc.symm.trans hclB
  intro T hT X
  rcases vx_callIF X hx (C := C) (bytes := bytes) (maxL := maxL) (ret := ret) ho cw.link cw.decl cw.face cw.sel cw.inst cw.pub cw.unh cw.cast cw.code cw.notMH hK (by rw [hT]; exact hcB) hoB hclB hkB hg (hsize.trans hml.symm) (argsL := As) (rest := rest) (fun sig h => hn.trans (cw.len sig h)) hstack hW (by rw [hb]; exact hdg)
    (fun vm₁ hW₁ => ⟨hf.1, hf.2, hPc (T.setVm vm₁) hT hW₁⟩) with ⟨v, vm₁, ⟨U', l2, c2, s2⟩, hW₁, X', ⟨g', mk, t, L, e1, e2, hq, h1, hL, h2, h3⟩, st⟩ | ⟨q, vm₁, ⟨U', l2, c2, s2⟩, hW₁, X', ⟨g', mk, t, L, E, ce, e1, e2, hq, hce, hcv, hcl, h1, hL, h2, h3⟩, st⟩
  · dsimp only [Pt.U, Pt.locs, Pt.cells, Pt.slots] at X' e1 e2 h1 h2 h3 st
    subst h1; subst h2; subst h3
    exact Or.inl ⟨v, (T.setVm vm₁).calling g' mk (Value.ref b :: As).toArray, t, U', L, hT, X', hL, e1, e2, hq, st⟩
  · dsimp only [Pt.U, Pt.locs, Pt.cells, Pt.slots] at X' e1 e2 h1 h2 h3 st hcl
    subst h1; subst h2; subst h3
    exact Or.inr ⟨q, (T.setVm vm₁).calling g' mk (Value.ref b :: As).toArray, t, U', L, E, ce, hT, X', hL, e1, e2, hq, hce, hcv, vx_cls hW₁ hcl, st⟩
theorem vx_callFv {S SX : Type} {post : S → Prop} {px : SX → Prop} {B : S → State → Prop} {BX : String → SX → State → Prop} {AX : Nat → Prop} (hr : vx_Run5 p l e R s m args below meth c H locs cells slots mc ms (F0 m pc ls st0) rest (va_Qv post B A1 a) (vx_X px BX AX) free) (hS : va_S A0 H0 H locs) (hA : ∀ q, q < H.size → A1 q → A0 q) (hf : ∀ q, free q → A0 q) (hAX : ∀ q, q < H.size → AX q → A0 q)
    (kx : ∀ (E : String) (ce : Cell) (q9 : Addr) (u : SX) (t : State) (H1 : Heap) (locs1 : List Loc), t.heap = H1 → s.vm.Alike t.vm → px u → BX E u t → H.size ≤ H1.size → (∀ q : Nat, q < H.size → ¬ AX q → H1[q]? = H[q]?) → va_S A0 H0 H1 locs1 → H1[q9]? = some ce → ce.vm = .none → s.vm.findClass E = some ce.cls → vx_W p l e R s m args below meth c H1 locs1 (cells + mc) (slots + ms) Q (F0 m pc ls rest) q9)
    (kk : ∀ (u : S) (t : State) (H1 : Heap) (locs1 : List Loc), t.heap = H1 → s.vm.Alike t.vm → post u → B u t → H.size ≤ H1.size → (∀ q : Nat, q < H.size → ¬ A1 q → H1[q]? = H[q]?) → va_S A0 H0 H1 locs1 → W p l e R s m args below meth c H1 locs1 (cells + mc) (slots + ms) Q (F0 m (pc + 5) ls (rest))) : W p l e R s m args below meth c H locs cells slots Q (F0 m pc ls st0) := by
  intro T hT X
  rcases hr T hT X with ⟨v, st₀, t, T', L, h0, X', hL, e1, e2, ⟨⟨u, hv, hp, hb⟩, hF⟩, st⟩ | ⟨q, st₀, t, T', L, E, ce, h0, X', hL, e1, e2, ⟨u, hp, hb, hF⟩, hce, hcv, hcl, st⟩
  · cases hv
    obtain ⟨k1, k2, k3⟩ := vx_keep h0 e1 hS hA hf hL hF
    obtain ⟨t2, a1, b1⟩ := kk u t T'.heap (locs ++ L) e1.symm (by rw [← e2]; exact X'.warmed.alike) hp hb k1 k2 k3 T' rfl X'
    exact ⟨t2, st t2 a1, b1⟩
  · obtain ⟨k1, k2, k3⟩ := vx_keep h0 e1 hS hAX hf hL hF
    obtain ⟨t2, a1, b1⟩ := kx E ce q u t T'.heap (locs ++ L) e1.symm (by rw [← e2]; exact X'.warmed.alike) hp hb k1 k2 k3 (by rw [e1]; exact hce) hcv hcl T' rfl X'
    exact ⟨t2, st.trans a1, b1⟩
theorem vx_callFi {S SX : Type} {post : Int32 → S → Prop} {px : SX → Prop} {B : S → State → Prop} {BX : String → SX → State → Prop} {AX : Nat → Prop} (hr : vx_Run5 p l e R s m args below meth c H locs cells slots mc ms (F0 m pc ls st0) rest (va_Qi post B A1 a) (vx_X px BX AX) free) (hS : va_S A0 H0 H locs) (hA : ∀ q, q < H.size → A1 q → A0 q) (hf : ∀ q, free q → A0 q) (hAX : ∀ q, q < H.size → AX q → A0 q)
    (kx : ∀ (E : String) (ce : Cell) (q9 : Addr) (u : SX) (t : State) (H1 : Heap) (locs1 : List Loc), t.heap = H1 → s.vm.Alike t.vm → px u → BX E u t → H.size ≤ H1.size → (∀ q : Nat, q < H.size → ¬ AX q → H1[q]? = H[q]?) → va_S A0 H0 H1 locs1 → H1[q9]? = some ce → ce.vm = .none → s.vm.findClass E = some ce.cls → vx_W p l e R s m args below meth c H1 locs1 (cells + mc) (slots + ms) Q (F0 m pc ls rest) q9)
    (kk : ∀ (r : Int32) (u : S) (t : State) (H1 : Heap) (locs1 : List Loc), t.heap = H1 → s.vm.Alike t.vm → post r u → B u t → H.size ≤ H1.size → (∀ q : Nat, q < H.size → ¬ A1 q → H1[q]? = H[q]?) → va_S A0 H0 H1 locs1 → W p l e R s m args below meth c H1 locs1 (cells + mc) (slots + ms) Q (F0 m (pc + 5) ls (.int r :: rest))) : W p l e R s m args below meth c H locs cells slots Q (F0 m pc ls st0) := by
  intro T hT X
  rcases hr T hT X with ⟨v, st₀, t, T', L, h0, X', hL, e1, e2, ⟨⟨r, u, hv, hp, hb⟩, hF⟩, st⟩ | ⟨q, st₀, t, T', L, E, ce, h0, X', hL, e1, e2, ⟨u, hp, hb, hF⟩, hce, hcv, hcl, st⟩
  · cases hv
    obtain ⟨k1, k2, k3⟩ := vx_keep h0 e1 hS hA hf hL hF
    obtain ⟨t2, a1, b1⟩ := kk r u t T'.heap (locs ++ L) e1.symm (by rw [← e2]; exact X'.warmed.alike) hp hb k1 k2 k3 T' rfl X'
    exact ⟨t2, st t2 a1, b1⟩
  · obtain ⟨k1, k2, k3⟩ := vx_keep h0 e1 hS hAX hf hL hF
    obtain ⟨t2, a1, b1⟩ := kx E ce q u t T'.heap (locs ++ L) e1.symm (by rw [← e2]; exact X'.warmed.alike) hp hb k1 k2 k3 (by rw [e1]; exact hce) hcv hcl T' rfl X'
    exact ⟨t2, st.trans a1, b1⟩
theorem vx_callFl {S SX : Type} {post : Int64 → S → Prop} {px : SX → Prop} {B : S → State → Prop} {BX : String → SX → State → Prop} {AX : Nat → Prop} (hr : vx_Run5 p l e R s m args below meth c H locs cells slots mc ms (F0 m pc ls st0) rest (va_Ql post B A1 a) (vx_X px BX AX) free) (hS : va_S A0 H0 H locs) (hA : ∀ q, q < H.size → A1 q → A0 q) (hf : ∀ q, free q → A0 q) (hAX : ∀ q, q < H.size → AX q → A0 q)
    (kx : ∀ (E : String) (ce : Cell) (q9 : Addr) (u : SX) (t : State) (H1 : Heap) (locs1 : List Loc), t.heap = H1 → s.vm.Alike t.vm → px u → BX E u t → H.size ≤ H1.size → (∀ q : Nat, q < H.size → ¬ AX q → H1[q]? = H[q]?) → va_S A0 H0 H1 locs1 → H1[q9]? = some ce → ce.vm = .none → s.vm.findClass E = some ce.cls → vx_W p l e R s m args below meth c H1 locs1 (cells + mc) (slots + ms) Q (F0 m pc ls rest) q9)
    (kk : ∀ (r : Int64) (u : S) (t : State) (H1 : Heap) (locs1 : List Loc), t.heap = H1 → s.vm.Alike t.vm → post r u → B u t → H.size ≤ H1.size → (∀ q : Nat, q < H.size → ¬ A1 q → H1[q]? = H[q]?) → va_S A0 H0 H1 locs1 → W p l e R s m args below meth c H1 locs1 (cells + mc) (slots + ms) Q (F0 m (pc + 5) ls (.long r :: rest))) : W p l e R s m args below meth c H locs cells slots Q (F0 m pc ls st0) := by
  intro T hT X
  rcases hr T hT X with ⟨v, st₀, t, T', L, h0, X', hL, e1, e2, ⟨⟨r, u, hv, hp, hb⟩, hF⟩, st⟩ | ⟨q, st₀, t, T', L, E, ce, h0, X', hL, e1, e2, ⟨u, hp, hb, hF⟩, hce, hcv, hcl, st⟩
  · cases hv
    obtain ⟨k1, k2, k3⟩ := vx_keep h0 e1 hS hA hf hL hF
    obtain ⟨t2, a1, b1⟩ := kk r u t T'.heap (locs ++ L) e1.symm (by rw [← e2]; exact X'.warmed.alike) hp hb k1 k2 k3 T' rfl X'
    exact ⟨t2, st t2 a1, b1⟩
  · obtain ⟨k1, k2, k3⟩ := vx_keep h0 e1 hS hAX hf hL hF
    obtain ⟨t2, a1, b1⟩ := kx E ce q u t T'.heap (locs ++ L) e1.symm (by rw [← e2]; exact X'.warmed.alike) hp hb k1 k2 k3 (by rw [e1]; exact hce) hcv hcl T' rfl X'
    exact ⟨t2, st.trans a1, b1⟩
theorem vx_callFf {S SX : Type} {post : UInt32 → S → Prop} {px : SX → Prop} {B : S → State → Prop} {BX : String → SX → State → Prop} {AX : Nat → Prop} (hr : vx_Run5 p l e R s m args below meth c H locs cells slots mc ms (F0 m pc ls st0) rest (va_Qf post B A1 a) (vx_X px BX AX) free) (hS : va_S A0 H0 H locs) (hA : ∀ q, q < H.size → A1 q → A0 q) (hf : ∀ q, free q → A0 q) (hAX : ∀ q, q < H.size → AX q → A0 q)
    (kx : ∀ (E : String) (ce : Cell) (q9 : Addr) (u : SX) (t : State) (H1 : Heap) (locs1 : List Loc), t.heap = H1 → s.vm.Alike t.vm → px u → BX E u t → H.size ≤ H1.size → (∀ q : Nat, q < H.size → ¬ AX q → H1[q]? = H[q]?) → va_S A0 H0 H1 locs1 → H1[q9]? = some ce → ce.vm = .none → s.vm.findClass E = some ce.cls → vx_W p l e R s m args below meth c H1 locs1 (cells + mc) (slots + ms) Q (F0 m pc ls rest) q9)
    (kk : ∀ (r : UInt32) (u : S) (t : State) (H1 : Heap) (locs1 : List Loc), t.heap = H1 → s.vm.Alike t.vm → post r u → B u t → H.size ≤ H1.size → (∀ q : Nat, q < H.size → ¬ A1 q → H1[q]? = H[q]?) → va_S A0 H0 H1 locs1 → W p l e R s m args below meth c H1 locs1 (cells + mc) (slots + ms) Q (F0 m (pc + 5) ls (.float r :: rest))) : W p l e R s m args below meth c H locs cells slots Q (F0 m pc ls st0) := by
  intro T hT X
  rcases hr T hT X with ⟨v, st₀, t, T', L, h0, X', hL, e1, e2, ⟨⟨r, u, hv, hp, hb⟩, hF⟩, st⟩ | ⟨q, st₀, t, T', L, E, ce, h0, X', hL, e1, e2, ⟨u, hp, hb, hF⟩, hce, hcv, hcl, st⟩
  · cases hv
    obtain ⟨k1, k2, k3⟩ := vx_keep h0 e1 hS hA hf hL hF
    obtain ⟨t2, a1, b1⟩ := kk r u t T'.heap (locs ++ L) e1.symm (by rw [← e2]; exact X'.warmed.alike) hp hb k1 k2 k3 T' rfl X'
    exact ⟨t2, st t2 a1, b1⟩
  · obtain ⟨k1, k2, k3⟩ := vx_keep h0 e1 hS hAX hf hL hF
    obtain ⟨t2, a1, b1⟩ := kx E ce q u t T'.heap (locs ++ L) e1.symm (by rw [← e2]; exact X'.warmed.alike) hp hb k1 k2 k3 (by rw [e1]; exact hce) hcv hcl T' rfl X'
    exact ⟨t2, st.trans a1, b1⟩
theorem vx_callFd {S SX : Type} {post : UInt64 → S → Prop} {px : SX → Prop} {B : S → State → Prop} {BX : String → SX → State → Prop} {AX : Nat → Prop} (hr : vx_Run5 p l e R s m args below meth c H locs cells slots mc ms (F0 m pc ls st0) rest (va_Qd post B A1 a) (vx_X px BX AX) free) (hS : va_S A0 H0 H locs) (hA : ∀ q, q < H.size → A1 q → A0 q) (hf : ∀ q, free q → A0 q) (hAX : ∀ q, q < H.size → AX q → A0 q)
    (kx : ∀ (E : String) (ce : Cell) (q9 : Addr) (u : SX) (t : State) (H1 : Heap) (locs1 : List Loc), t.heap = H1 → s.vm.Alike t.vm → px u → BX E u t → H.size ≤ H1.size → (∀ q : Nat, q < H.size → ¬ AX q → H1[q]? = H[q]?) → va_S A0 H0 H1 locs1 → H1[q9]? = some ce → ce.vm = .none → s.vm.findClass E = some ce.cls → vx_W p l e R s m args below meth c H1 locs1 (cells + mc) (slots + ms) Q (F0 m pc ls rest) q9)
    (kk : ∀ (r : UInt64) (u : S) (t : State) (H1 : Heap) (locs1 : List Loc), t.heap = H1 → s.vm.Alike t.vm → post r u → B u t → H.size ≤ H1.size → (∀ q : Nat, q < H.size → ¬ A1 q → H1[q]? = H[q]?) → va_S A0 H0 H1 locs1 → W p l e R s m args below meth c H1 locs1 (cells + mc) (slots + ms) Q (F0 m (pc + 5) ls (.double r :: rest))) : W p l e R s m args below meth c H locs cells slots Q (F0 m pc ls st0) := by
  intro T hT X
  rcases hr T hT X with ⟨v, st₀, t, T', L, h0, X', hL, e1, e2, ⟨⟨r, u, hv, hp, hb⟩, hF⟩, st⟩ | ⟨q, st₀, t, T', L, E, ce, h0, X', hL, e1, e2, ⟨u, hp, hb, hF⟩, hce, hcv, hcl, st⟩
  · cases hv
    obtain ⟨k1, k2, k3⟩ := vx_keep h0 e1 hS hA hf hL hF
    obtain ⟨t2, a1, b1⟩ := kk r u t T'.heap (locs ++ L) e1.symm (by rw [← e2]; exact X'.warmed.alike) hp hb k1 k2 k3 T' rfl X'
    exact ⟨t2, st t2 a1, b1⟩
  · obtain ⟨k1, k2, k3⟩ := vx_keep h0 e1 hS hAX hf hL hF
    obtain ⟨t2, a1, b1⟩ := kx E ce q u t T'.heap (locs ++ L) e1.symm (by rw [← e2]; exact X'.warmed.alike) hp hb k1 k2 k3 (by rw [e1]; exact hce) hcv hcl T' rfl X'
    exact ⟨t2, st.trans a1, b1⟩
end
/-! ===== END ===== -/
/-! ===== BEGIN by an interface, a method with a table of its own that may throw (follows va_callIFW, va_runFW) ===== -/
section
variable {p : Program} {l : Launch} {e : Env} {R : Room} {s : State} {m : MethodId} {args : Array Value} {below : List Frame} {meth : Method} {c : Code} {H : Heap} {locs : List Loc} {cells slots : Nat}
theorem vx_callIFW {T : State} (X : Stand p l e R s m args below meth c T locs cells slots) (hexec : p.tables.exec = Jvm.exec) {own C : String} {index count : Nat} {x y : MethodName} {bytes : ByteArray} {maxL : Nat} {ret : Option FieldType} {hh : List (Nat × Nat × Nat × Nat)}
    (hown : s.vm.findClass own = some m.cls) (hlink : (Cond.methodLink own index x).before args s = true) (hdecl : (Cond.declares x).before args s = true) (hface : (Cond.interfaceMethod x.cls x.cls x.name x.desc).before args s = true)
    (hsel : (Cond.selects C x y).before args s = true) (hinst : (Cond.instanceMethod y).before args s = true) (hpub : (Cond.publicMethod y).before args s = true) (hunh : (Cond.unhidden C x.name x.desc).before args s = true)
    (hcast : (Cond.castable C x.cls).before args s = true) (hcode : (Cond.codeWith y bytes maxL ret hh).before args s = true) (hx : x.cls ≠ "java/lang/invoke/MethodHandle" ∧ x.cls ≠ "java/lang/invoke/VarHandle")
    {W : Nat} {Pre : Pt → Array Value → Prop} {Post : Pt → Array Value → Option Value → Pt → Prop} {PostX : Pt → Array Value → Addr → Pt → Prop} (hK : vx_Back l R p e below s args y 5 W Pre Post PostX)
    {b : Addr} {cellB : Cell} {kB : Class} (hcell : T.heap[b]? = some cellB) (hobj : cellB.vm.isStatics = false) (hcls : s.vm.findClass C = some cellB.cls) (hkB : s.vm.classes[cellB.cls]? = some kB)
    {g : JFrame} (hg : g.method = m) (hsize : g.locals.size = c.maxLocals) {argsL rest : List Value} (hlen : ∀ sig, parseMethodDescriptor x.desc = some sig → argsL.length = sig.parameters.length)
    (hstack : g.stack = argsL.reverse ++ .ref b :: rest) (hW : 2 * g.monitorRoom + (rest.map fun v => v.category).sum ≤ W) (hdg : decode c.code g.pc = .ok (.invokeinterface index count, 5))
    (hpre : ∀ vm₁, s.WarmedH vm₁ → Pre ⟨T.setVm vm₁, locs, cells, slots⟩ (Value.ref b :: argsL).toArray) :
    (∃ (v : Option Value) (vm₁ : Vm) (B : Pt), s.WarmedH vm₁ ∧ Stand p l e R s m args below meth c B.U B.locs B.cells B.slots ∧ Post ⟨T.setVm vm₁, locs, cells, slots⟩ (Value.ref b :: argsL).toArray v B ∧
      ∀ target, Steps p.tables e below (B.U.setTop { g with pc := g.pc + 5, stack := v.toList ++ rest }) target → Steps p.tables e below (T.setTop g) target) ∨
    (∃ (q : Addr) (vm₁ : Vm) (B : Pt), s.WarmedH vm₁ ∧ Stand p l e R s m args below meth c B.U B.locs B.cells B.slots ∧ PostX ⟨T.setVm vm₁, locs, cells, slots⟩ (Value.ref b :: argsL).toArray q B ∧
      Steps p.tables e below (T.setTop g) ((B.U.setTop { g with stack := rest }).pushFrame (.throwing q))) := by
  obtain ⟨r0, r, hn, hrm, hstR, hsigR⟩ := Cond.declares_spec hdecl
  obtain ⟨cL, kL, r1, hcL, hkL, hiL, hfoundL, hn1⟩ := Cond.interfaceMethod_spec hface
  cases hn.symm.trans hn1
  have hr0cls : r0.cls = cL := Option.some.inj ((findClass_of_methodNamed hn).symm.trans hcL)
  obtain ⟨hnameR, hdescR⟩ := name_of_methodNamed hn hrm
  obtain ⟨mk, methM, hnamed, hmethM, -, habM⟩ := Cond.instanceMethod_spec hinst
  obtain ⟨c2, r2, m2, q1, q2, q3, q4, -⟩ := Cond.selects_spec hsel
  cases hcls.symm.trans q1
  cases hfoundL.symm.trans q2
  cases hnamed.symm.trans q3
  have hselP : selectMethod e.platform s.vm cellB.cls r0 = .method mk := by rw [Launch.admits_selectMethod X.admits]; exact q4
  have hpubM : hasFlag methM.accessFlags Acc.public_ = true := Cond.publicMethod_spec hnamed hmethM hpub
  have hway : ((cellB.cls :: s.vm.superclasses cellB.cls).any fun k => (declaredIn s.vm r.name r.desc k).any fun (_, z) => z.isPrivate || z.isStatic) = false := by
    rw [hnameR, hdescR]; exact Cond.unhidden_spec hcls hunh
  obtain ⟨c3, t3, w1, w2, w3⟩ := Cond.castable_spec hcast
  cases hcls.symm.trans w1
  cases hcL.symm.trans w2
  obtain ⟨vm₁, X₁, hstep₁⟩ := X.invokeinterface hexec hown hlink hn hrm hstR (by rw [hr0cls]; exact hkL) hiL hx (a := b) (cell := cellB) (kcell := kB) hcell
    (fun z h => by rw [h] at hobj; cases hobj) hkB (by rw [hr0cls]; exact w3) hselP hmethM hway hpubM habM (g := g) hg (argsL := argsL) (rest := rest) (hlen _ hsigR) hstack hdg
  rcases hK m meth c ⟨T.setVm vm₁, locs, cells, slots⟩ { g with stack := rest } (.invokeinterface index count) mk (Value.ref b :: argsL).toArray X₁ hg hsize hdg hW (X₁.named hnamed) (hpre vm₁ X₁.warmed) with ⟨v, B, X', hpost, hsteps⟩ | ⟨q, B, X', hpost, hsteps⟩
  · exact Or.inl ⟨v, vm₁, B, X₁.warmed, X', hpost, fun target h => hstep₁ _ fun acts => by rw [doInvoke_state]; exact hsteps.trans h⟩
  · exact Or.inr ⟨q, vm₁, B, X₁.warmed, X', hpost, hstep₁ _ fun acts => by rw [doInvoke_state]; exact hsteps⟩
theorem vx_runFW {x y : MethodName} {bytes cc : ByteArray} {maxL nL mc ms n index count : Nat} {ret : Option FieldType} {hh : List (Nat × Nat × Nat × Nat)} {ws : List Cond} {rm : Room} {Pc : Array Value → State → Prop} {Qc : Array Value → State → Outcome → State → Prop} {XC : String → State → State → Prop} {free : Addr → Prop} {Ts : List Cond} {own C : String} {cC : ClassId} {b : Addr} {As rest : List Value} {g : JFrame}
    (hat : ClassAt s C cC) (S : CallFix p m c cc nL s args Ts own) (hM : vx_Met l y ws rm Pc Qc XC mc ms free) (cw : va_CIW R s args own C index x y bytes maxL ret hh ws rm mc ms n) (hp : PreV s H C b Pc As)
    (hg : g.method = m) (hn : As.length = n) (hsize : g.locals.size = nL) (hstack : g.stack = As.reverse ++ .ref b :: rest) (hW : 2 * g.monitorRoom + (rest.map fun v => v.category).sum ≤ 8) (hdg : decode cc g.pc = .ok (.invokeinterface index count, 5)) (hf : cells + mc ≤ R.cells ∧ slots + ms ≤ R.slots) :
    vx_Run5 p l e R s m args below meth c H locs cells slots mc ms g rest (Qc (Value.ref b :: As).toArray) XC free := by
  obtain ⟨hrc, hrs, hfr, hlo, hws, hcw⟩ := cw.back
  have hini := cw.init
  have hK : vx_Back l R p e below s args y 5 8 (PreOf R mc ms Pc) (PostOf Qc mc ms free) (vx_Post XC mc ms free) := vx_backW (hh := hh) (bytes := bytes) (maxL := maxL) (ret := ret) hM hp.1 hrc hrs hfr hlo hws hcw (fun a' U hW => word_at hW (Or.inl (by first | rfl | simp [Cond.onTables, Cond.keeps, Cond.steady])) hini)
  obtain ⟨hx, hb, hml, ho, -⟩ := S
  obtain ⟨-, ⟨cellB, hcB, hoB, hclB⟩, hPc⟩ := hp
  obtain ⟨hfc, kB, hkB, -⟩ := hat
  cases hfc.symm.trans hclB
  intro T hT X
  rcases vx_callIFW X hx (C := C) (hh := hh) (bytes := bytes) (maxL := maxL) (ret := ret) ho cw.link cw.decl cw.face cw.sel cw.inst cw.pub cw.unh cw.cast cw.code cw.notMH hK (by rw [hT]; exact hcB) hoB hclB hkB hg (hsize.trans hml.symm) (argsL := As) (rest := rest) (fun sig h => hn.trans (cw.len sig h)) hstack hW (by rw [hb]; exact hdg)
    (fun vm₁ hW₁ => ⟨hf.1, hf.2, hPc (T.setVm vm₁) hT hW₁⟩) with ⟨v, vm₁, ⟨U', l2, c2, s2⟩, hW₁, X', ⟨g', mk, t, L, e1, e2, hq, h1, hL, h2, h3⟩, st⟩ | ⟨q, vm₁, ⟨U', l2, c2, s2⟩, hW₁, X', ⟨g', mk, t, L, E, ce, e1, e2, hq, hce, hcv, hcl, h1, hL, h2, h3⟩, st⟩
  · dsimp only [Pt.U, Pt.locs, Pt.cells, Pt.slots] at X' e1 e2 h1 h2 h3 st
    subst h1; subst h2; subst h3
    exact Or.inl ⟨v, (T.setVm vm₁).calling g' mk (Value.ref b :: As).toArray, t, U', L, hT, X', hL, e1, e2, hq, st⟩
  · dsimp only [Pt.U, Pt.locs, Pt.cells, Pt.slots] at X' e1 e2 h1 h2 h3 st hcl
    subst h1; subst h2; subst h3
    exact Or.inr ⟨q, (T.setVm vm₁).calling g' mk (Value.ref b :: As).toArray, t, U', L, E, ce, hT, X', hL, e1, e2, hq, hce, hcv, vx_cls hW₁ hcl, st⟩
end
/-! ===== END ===== -/
/-! ===== BEGIN .. of methods that hand back an object of the pool ===== -/
section
variable {p : Program} {l : Launch} {e : Env} {R : Room} {s : State} {m : MethodId} {args : Array Value} {below : List Frame} {meth : Method} {c : Code} {H : Heap} {locs : List Loc} {cells slots : Nat} {Q : State → Prop}
variable {mc ms : Nat} {free : Addr → Prop} {A0 A1 : Nat → Prop} {H0 : Heap} {a : Array Value} {pc : Nat} {ls : Array Slot} {st0 rest : List Value}
theorem vx_callq {S SX : Type} {post : Option Nat → S → Prop} {px : SX → Prop} {B : S → State → Prop} {BX : String → SX → State → Prop} {AX : Nat → Prop} (hr : vx_Run p l e R s m args below meth c H locs cells slots mc ms (F0 m pc ls st0) rest (va_Qq post B A1 a) (vx_X px BX AX) free) (hS : va_S A0 H0 H locs) (hA : ∀ q, q < H.size → A1 q → A0 q) (hf : ∀ q, free q → A0 q) (hAX : ∀ q, q < H.size → AX q → A0 q)
    (kx : ∀ (E : String) (ce : Cell) (q9 : Addr) (u : SX) (t : State) (H1 : Heap) (locs1 : List Loc), t.heap = H1 → s.vm.Alike t.vm → px u → BX E u t → H.size ≤ H1.size → (∀ q : Nat, q < H.size → ¬ AX q → H1[q]? = H[q]?) → va_S A0 H0 H1 locs1 → H1[q9]? = some ce → ce.vm = .none → s.vm.findClass E = some ce.cls → vx_W p l e R s m args below meth c H1 locs1 (cells + mc) (slots + ms) Q (F0 m pc ls rest) q9)
    (kk : ∀ (r : Option Nat) (u : S) (t : State) (H1 : Heap) (locs1 : List Loc), t.heap = H1 → s.vm.Alike t.vm → post r u → B u t → H.size ≤ H1.size → (∀ q : Nat, q < H.size → ¬ A1 q → H1[q]? = H[q]?) → va_S A0 H0 H1 locs1 → W p l e R s m args below meth c H1 locs1 (cells + mc) (slots + ms) Q (F0 m (pc + 3) ls (va_rf r :: rest))) : W p l e R s m args below meth c H locs cells slots Q (F0 m pc ls st0) := by
  intro T hT X
  rcases hr T hT X with ⟨v, st₀, t, T', L, h0, X', hL, e1, e2, ⟨⟨r, u, hv, hp, hb⟩, hF⟩, st⟩ | ⟨q, st₀, t, T', L, E, ce, h0, X', hL, e1, e2, ⟨u, hp, hb, hF⟩, hce, hcv, hcl, st⟩
  · cases hv
    obtain ⟨k1, k2, k3⟩ := vx_keep h0 e1 hS hA hf hL hF
    obtain ⟨t2, a1, b1⟩ := kk r u t T'.heap (locs ++ L) e1.symm (by rw [← e2]; exact X'.warmed.alike) hp hb k1 k2 k3 T' rfl X'
    exact ⟨t2, st t2 a1, b1⟩
  · obtain ⟨k1, k2, k3⟩ := vx_keep h0 e1 hS hAX hf hL hF
    obtain ⟨t2, a1, b1⟩ := kx E ce q u t T'.heap (locs ++ L) e1.symm (by rw [← e2]; exact X'.warmed.alike) hp hb k1 k2 k3 (by rw [e1]; exact hce) hcv hcl T' rfl X'
    exact ⟨t2, st.trans a1, b1⟩
end
/-! ===== END ===== -/
/-! ===== BEGIN .. a constant ===== -/
section
variable {p : Program} {l : Launch} {e : Env} {R : Room} {s : State} {m : MethodId} {args : Array Value} {below : List Frame} {meth : Method} {c : Code} {H : Heap} {locs : List Loc} {cells slots : Nat} {Q : State → Prop}
variable {mc ms : Nat} {free : Addr → Prop} {A0 A1 : Nat → Prop} {H0 : Heap} {a : Array Value} {pc : Nat} {ls : Array Slot} {st0 rest : List Value}
theorem vx_calle {ad : Nat → Nat} {S SX : Type} {post : Option Nat → S → Prop} {px : SX → Prop} {B : S → State → Prop} {BX : String → SX → State → Prop} {AX : Nat → Prop} (hr : vx_Run p l e R s m args below meth c H locs cells slots mc ms (F0 m pc ls st0) rest (va_Qe ad post B A1 a) (vx_X px BX AX) free) (hS : va_S A0 H0 H locs) (hA : ∀ q, q < H.size → A1 q → A0 q) (hf : ∀ q, free q → A0 q) (hAX : ∀ q, q < H.size → AX q → A0 q)
    (kx : ∀ (E : String) (ce : Cell) (q9 : Addr) (u : SX) (t : State) (H1 : Heap) (locs1 : List Loc), t.heap = H1 → s.vm.Alike t.vm → px u → BX E u t → H.size ≤ H1.size → (∀ q : Nat, q < H.size → ¬ AX q → H1[q]? = H[q]?) → va_S A0 H0 H1 locs1 → H1[q9]? = some ce → ce.vm = .none → s.vm.findClass E = some ce.cls → vx_W p l e R s m args below meth c H1 locs1 (cells + mc) (slots + ms) Q (F0 m pc ls rest) q9)
    (kk : ∀ (r : Option Nat) (u : S) (t : State) (H1 : Heap) (locs1 : List Loc), t.heap = H1 → s.vm.Alike t.vm → post r u → B u t → H.size ≤ H1.size → (∀ q : Nat, q < H.size → ¬ A1 q → H1[q]? = H[q]?) → va_S A0 H0 H1 locs1 → W p l e R s m args below meth c H1 locs1 (cells + mc) (slots + ms) Q (F0 m (pc + 3) ls (va_re ad r :: rest))) : W p l e R s m args below meth c H locs cells slots Q (F0 m pc ls st0) := by
  intro T hT X
  rcases hr T hT X with ⟨v, st₀, t, T', L, h0, X', hL, e1, e2, ⟨⟨r, u, hv, hp, hb⟩, hF⟩, st⟩ | ⟨q, st₀, t, T', L, E, ce, h0, X', hL, e1, e2, ⟨u, hp, hb, hF⟩, hce, hcv, hcl, st⟩
  · cases hv
    obtain ⟨k1, k2, k3⟩ := vx_keep h0 e1 hS hA hf hL hF
    obtain ⟨t2, a1, b1⟩ := kk r u t T'.heap (locs ++ L) e1.symm (by rw [← e2]; exact X'.warmed.alike) hp hb k1 k2 k3 T' rfl X'
    exact ⟨t2, st t2 a1, b1⟩
  · obtain ⟨k1, k2, k3⟩ := vx_keep h0 e1 hS hAX hf hL hF
    obtain ⟨t2, a1, b1⟩ := kx E ce q u t T'.heap (locs ++ L) e1.symm (by rw [← e2]; exact X'.warmed.alike) hp hb k1 k2 k3 (by rw [e1]; exact hce) hcv hcl T' rfl X'
    exact ⟨t2, st.trans a1, b1⟩
end
/-! ===== END ===== -/
/-! ===== BEGIN .. by an interface, an object ===== -/
section
variable {p : Program} {l : Launch} {e : Env} {R : Room} {s : State} {m : MethodId} {args : Array Value} {below : List Frame} {meth : Method} {c : Code} {H : Heap} {locs : List Loc} {cells slots : Nat} {Q : State → Prop}
variable {mc ms : Nat} {free : Addr → Prop} {A0 A1 : Nat → Prop} {H0 : Heap} {a : Array Value} {pc : Nat} {ls : Array Slot} {st0 rest : List Value}
theorem vx_callFq {S SX : Type} {post : Option Nat → S → Prop} {px : SX → Prop} {B : S → State → Prop} {BX : String → SX → State → Prop} {AX : Nat → Prop} (hr : vx_Run5 p l e R s m args below meth c H locs cells slots mc ms (F0 m pc ls st0) rest (va_Qq post B A1 a) (vx_X px BX AX) free) (hS : va_S A0 H0 H locs) (hA : ∀ q, q < H.size → A1 q → A0 q) (hf : ∀ q, free q → A0 q) (hAX : ∀ q, q < H.size → AX q → A0 q)
    (kx : ∀ (E : String) (ce : Cell) (q9 : Addr) (u : SX) (t : State) (H1 : Heap) (locs1 : List Loc), t.heap = H1 → s.vm.Alike t.vm → px u → BX E u t → H.size ≤ H1.size → (∀ q : Nat, q < H.size → ¬ AX q → H1[q]? = H[q]?) → va_S A0 H0 H1 locs1 → H1[q9]? = some ce → ce.vm = .none → s.vm.findClass E = some ce.cls → vx_W p l e R s m args below meth c H1 locs1 (cells + mc) (slots + ms) Q (F0 m pc ls rest) q9)
    (kk : ∀ (r : Option Nat) (u : S) (t : State) (H1 : Heap) (locs1 : List Loc), t.heap = H1 → s.vm.Alike t.vm → post r u → B u t → H.size ≤ H1.size → (∀ q : Nat, q < H.size → ¬ A1 q → H1[q]? = H[q]?) → va_S A0 H0 H1 locs1 → W p l e R s m args below meth c H1 locs1 (cells + mc) (slots + ms) Q (F0 m (pc + 5) ls (va_rf r :: rest))) : W p l e R s m args below meth c H locs cells slots Q (F0 m pc ls st0) := by
  intro T hT X
  rcases hr T hT X with ⟨v, st₀, t, T', L, h0, X', hL, e1, e2, ⟨⟨r, u, hv, hp, hb⟩, hF⟩, st⟩ | ⟨q, st₀, t, T', L, E, ce, h0, X', hL, e1, e2, ⟨u, hp, hb, hF⟩, hce, hcv, hcl, st⟩
  · cases hv
    obtain ⟨k1, k2, k3⟩ := vx_keep h0 e1 hS hA hf hL hF
    obtain ⟨t2, a1, b1⟩ := kk r u t T'.heap (locs ++ L) e1.symm (by rw [← e2]; exact X'.warmed.alike) hp hb k1 k2 k3 T' rfl X'
    exact ⟨t2, st t2 a1, b1⟩
  · obtain ⟨k1, k2, k3⟩ := vx_keep h0 e1 hS hAX hf hL hF
    obtain ⟨t2, a1, b1⟩ := kx E ce q u t T'.heap (locs ++ L) e1.symm (by rw [← e2]; exact X'.warmed.alike) hp hb k1 k2 k3 (by rw [e1]; exact hce) hcv hcl T' rfl X'
    exact ⟨t2, st.trans a1, b1⟩
end
/-! ===== END ===== -/
/-! ===== BEGIN .. by an interface, a constant ===== -/
section
variable {p : Program} {l : Launch} {e : Env} {R : Room} {s : State} {m : MethodId} {args : Array Value} {below : List Frame} {meth : Method} {c : Code} {H : Heap} {locs : List Loc} {cells slots : Nat} {Q : State → Prop}
variable {mc ms : Nat} {free : Addr → Prop} {A0 A1 : Nat → Prop} {H0 : Heap} {a : Array Value} {pc : Nat} {ls : Array Slot} {st0 rest : List Value}
theorem vx_callFe {ad : Nat → Nat} {S SX : Type} {post : Option Nat → S → Prop} {px : SX → Prop} {B : S → State → Prop} {BX : String → SX → State → Prop} {AX : Nat → Prop} (hr : vx_Run5 p l e R s m args below meth c H locs cells slots mc ms (F0 m pc ls st0) rest (va_Qe ad post B A1 a) (vx_X px BX AX) free) (hS : va_S A0 H0 H locs) (hA : ∀ q, q < H.size → A1 q → A0 q) (hf : ∀ q, free q → A0 q) (hAX : ∀ q, q < H.size → AX q → A0 q)
    (kx : ∀ (E : String) (ce : Cell) (q9 : Addr) (u : SX) (t : State) (H1 : Heap) (locs1 : List Loc), t.heap = H1 → s.vm.Alike t.vm → px u → BX E u t → H.size ≤ H1.size → (∀ q : Nat, q < H.size → ¬ AX q → H1[q]? = H[q]?) → va_S A0 H0 H1 locs1 → H1[q9]? = some ce → ce.vm = .none → s.vm.findClass E = some ce.cls → vx_W p l e R s m args below meth c H1 locs1 (cells + mc) (slots + ms) Q (F0 m pc ls rest) q9)
    (kk : ∀ (r : Option Nat) (u : S) (t : State) (H1 : Heap) (locs1 : List Loc), t.heap = H1 → s.vm.Alike t.vm → post r u → B u t → H.size ≤ H1.size → (∀ q : Nat, q < H.size → ¬ A1 q → H1[q]? = H[q]?) → va_S A0 H0 H1 locs1 → W p l e R s m args below meth c H1 locs1 (cells + mc) (slots + ms) Q (F0 m (pc + 5) ls (va_re ad r :: rest))) : W p l e R s m args below meth c H locs cells slots Q (F0 m pc ls st0) := by
  intro T hT X
  rcases hr T hT X with ⟨v, st₀, t, T', L, h0, X', hL, e1, e2, ⟨⟨r, u, hv, hp, hb⟩, hF⟩, st⟩ | ⟨q, st₀, t, T', L, E, ce, h0, X', hL, e1, e2, ⟨u, hp, hb, hF⟩, hce, hcv, hcl, st⟩
  · cases hv
    obtain ⟨k1, k2, k3⟩ := vx_keep h0 e1 hS hA hf hL hF
    obtain ⟨t2, a1, b1⟩ := kk r u t T'.heap (locs ++ L) e1.symm (by rw [← e2]; exact X'.warmed.alike) hp hb k1 k2 k3 T' rfl X'
    exact ⟨t2, st t2 a1, b1⟩
  · obtain ⟨k1, k2, k3⟩ := vx_keep h0 e1 hS hAX hf hL hF
    obtain ⟨t2, a1, b1⟩ := kx E ce q u t T'.heap (locs ++ L) e1.symm (by rw [← e2]; exact X'.warmed.alike) hp hb k1 k2 k3 (by rw [e1]; exact hce) hcv hcl T' rfl X'
    exact ⟨t2, st.trans a1, b1⟩
end
/-! ===== END ===== -/
/-! ===== BEGIN what the machine throws by itself: null at a field, at athrow ===== -/
section VXM2
variable {p : Program} {l : Launch} {e : Env} {R : Room} {s : State} {m : MethodId} {args : Array Value} {below : List Frame} {meth : Method} {c : Code} {H : Heap} {locs : List Loc} {cells slots : Nat}
variable {Q : State → Prop} {cc : ByteArray} {pc : Nat} {ls : Array Slot} {rest : List Value}
theorem vx_getfN {D cl tys} {own ref C : String} {T : u_T} {N ci index : Nat} {Ts : List Cond} (hexec : p.tables.exec = Jvm.exec) (hb : c.code = cc) (hts : ∀ w ∈ Ts, w.before args s = true) (hin : ∀ w ∈ u_ws C T N, w ∈ Ts) (hown : s.vm.findClass own = some m.cls) (hK : va_K D cl tys s) (hc : cl[ci]? = some (C, T, N)) (k : Nat) (hk : k < N) (hlink : (Cond.fieldLink own index ref (T k).2.1 (T k).2.2.1).before args s = true) (hsame : ∀ x, s.fieldFound? (T k).1 (T k).2.1 (T k).2.2.1 = some x → s.fieldFound? ref (T k).2.1 (T k).2.2.1 = some x) (hdg : decode cc pc = .ok (.getfield index, 3)) (kk : vx_NoteN p l e R s m args below meth c H locs cells slots Q (F0 m pc ls rest)) : W p l e R s m args below meth c H locs cells slots Q (F0 m pc ls (.null :: rest)) := by
  obtain ⟨hS, hfc, kC, hkC, -⟩ := hK.1 ci _ hc
  obtain ⟨cf, kf, fi, f, hi, -⟩ := hS k hk
  intro U hU X
  obtain ⟨vm', X1, st1⟩ := X.getfieldNull hexec hown hlink (hsame _ hi) (u_facts hfc hkC (u_lays hts hin hk) hi).1 (g := F0 m pc ls (.null :: rest)) rfl (rest := rest) rfl (by rw [hb]; exact hdg)
  obtain ⟨t, st, q⟩ := kk (U.setVm vm') hU X1
  exact ⟨t, st1 t st, q⟩
theorem vx_getfNN {D cl tys} {own ref C host : String} {T : u_T} {N ci index : Nat} {Ts : List Cond} (hexec : p.tables.exec = Jvm.exec) (hb : c.code = cc) (hts : ∀ w ∈ Ts, w.before args s = true) (hin : ∀ w ∈ u_ws C T N, w ∈ Ts) (hown : s.vm.findClass own = some m.cls) (hK : va_K D cl tys s) (hc : cl[ci]? = some (C, T, N)) (k : Nat) (hk : k < N) (hlink : (Cond.fieldLinkNest own index ref (T k).2.1 (T k).2.2.1 host).before args s = true) (hsame : ∀ x, s.fieldFound? (T k).1 (T k).2.1 (T k).2.2.1 = some x → s.fieldFound? ref (T k).2.1 (T k).2.2.1 = some x) (hdg : decode cc pc = .ok (.getfield index, 3)) (kk : vx_NoteN p l e R s m args below meth c H locs cells slots Q (F0 m pc ls rest)) : W p l e R s m args below meth c H locs cells slots Q (F0 m pc ls (.null :: rest)) := by
  obtain ⟨hS, hfc, kC, hkC, -⟩ := hK.1 ci _ hc
  obtain ⟨cf, kf, fi, f, hi, -⟩ := hS k hk
  intro U hU X
  obtain ⟨vm', X1, st1⟩ := X.getfieldNullNest hexec hown hlink (hsame _ hi) (u_facts hfc hkC (u_lays hts hin hk) hi).1 (g := F0 m pc ls (.null :: rest)) rfl (rest := rest) rfl (by rw [hb]; exact hdg)
  obtain ⟨t, st, q⟩ := kk (U.setVm vm') hU X1
  exact ⟨t, st1 t st, q⟩
theorem vx_putfN {D cl tys} {own ref C : String} {T : u_T} {N ci index : Nat} {Ts : List Cond} (hexec : p.tables.exec = Jvm.exec) (hb : c.code = cc) (hts : ∀ w ∈ Ts, w.before args s = true) (hin : ∀ w ∈ u_ws C T N, w ∈ Ts) (hown : s.vm.findClass own = some m.cls) (hK : va_K D cl tys s) (hc : cl[ci]? = some (C, T, N)) (k : Nat) (hk : k < N) (hlink : (Cond.fieldLink own index ref (T k).2.1 (T k).2.2.1).before args s = true) (hsame : ∀ x, s.fieldFound? (T k).1 (T k).2.1 (T k).2.2.1 = some x → s.fieldFound? ref (T k).2.1 (T k).2.2.1 = some x) (hfin : (T k).2.2.2 = false) {v : Value} (hdg : decode cc pc = .ok (.putfield index, 3)) (kk : vx_NoteN p l e R s m args below meth c H locs cells slots Q (F0 m pc ls rest)) : W p l e R s m args below meth c H locs cells slots Q (F0 m pc ls (v :: .null :: rest)) := by
  obtain ⟨hS, hfc, kC, hkC, -⟩ := hK.1 ci _ hc
  obtain ⟨cf, kf, fi, f, hi, -⟩ := hS k hk
  have hlay := hts _ (hin _ (u_in_lay hk))
  unfold u_lay at hlay
  rw [if_neg (by rw [hfin]; decide)] at hlay
  obtain ⟨c9, k9, cf9, kf9, fi9, f9, -, -, hi9, hst9, hnf9, -⟩ := Cond.lays_spec hlay
  cases hi.symm.trans hi9
  intro U hU X
  obtain ⟨vm', X1, st1⟩ := X.putfieldNull hexec hown hlink (hsame _ hi) hst9 hnf9 (g := F0 m pc ls (v :: .null :: rest)) rfl (v := v) (rest := rest) rfl (by rw [hb]; exact hdg)
  obtain ⟨t, st, q⟩ := kk (U.setVm vm') hU X1
  exact ⟨t, st1 t st, q⟩
theorem vx_putfNN {D cl tys} {own ref C host : String} {T : u_T} {N ci index : Nat} {Ts : List Cond} (hexec : p.tables.exec = Jvm.exec) (hb : c.code = cc) (hts : ∀ w ∈ Ts, w.before args s = true) (hin : ∀ w ∈ u_ws C T N, w ∈ Ts) (hown : s.vm.findClass own = some m.cls) (hK : va_K D cl tys s) (hc : cl[ci]? = some (C, T, N)) (k : Nat) (hk : k < N) (hlink : (Cond.fieldLinkNest own index ref (T k).2.1 (T k).2.2.1 host).before args s = true) (hsame : ∀ x, s.fieldFound? (T k).1 (T k).2.1 (T k).2.2.1 = some x → s.fieldFound? ref (T k).2.1 (T k).2.2.1 = some x) (hfin : (T k).2.2.2 = false) {v : Value} (hdg : decode cc pc = .ok (.putfield index, 3)) (kk : vx_NoteN p l e R s m args below meth c H locs cells slots Q (F0 m pc ls rest)) : W p l e R s m args below meth c H locs cells slots Q (F0 m pc ls (v :: .null :: rest)) := by
  obtain ⟨hS, hfc, kC, hkC, -⟩ := hK.1 ci _ hc
  obtain ⟨cf, kf, fi, f, hi, -⟩ := hS k hk
  have hlay := hts _ (hin _ (u_in_lay hk))
  unfold u_lay at hlay
  rw [if_neg (by rw [hfin]; decide)] at hlay
  obtain ⟨c9, k9, cf9, kf9, fi9, f9, -, -, hi9, hst9, hnf9, -⟩ := Cond.lays_spec hlay
  cases hi.symm.trans hi9
  intro U hU X
  obtain ⟨vm', X1, st1⟩ := X.putfieldNullNest hexec hown hlink (hsame _ hi) hst9 hnf9 (g := F0 m pc ls (v :: .null :: rest)) rfl (v := v) (rest := rest) rfl (by rw [hb]; exact hdg)
  obtain ⟨t, st, q⟩ := kk (U.setVm vm') hU X1
  exact ⟨t, st1 t st, q⟩
theorem vx_athrowN (hexec : p.tables.exec = Jvm.exec) (hb : c.code = cc) (hdg : decode cc pc = .ok (.athrow, 1)) (k : vx_NoteN p l e R s m args below meth c H locs cells slots Q (F0 m pc ls rest)) : W p l e R s m args below meth c H locs cells slots Q (F0 m pc ls (.null :: rest)) := by
  intro T hT X
  obtain ⟨t, st, q⟩ := k T hT X
  exact ⟨t, X.athrowNull hexec (g := F0 m pc ls (.null :: rest)) rfl (rest := rest) rfl (by rw [hb]; exact hdg) t st, q⟩
end VXM2
/-! ===== END ===== -/
end
section
/-! A pure machine for the claim's bytecode, run by the kernel: values are known ones, or one of the script's ints of which an interval is known. Part 03: trees, numbers. -/
def q_T (A : Type) : Nat → Type
  | 0 => A
  | d + 1 => q_T A d × q_T A d
noncomputable def q_get {A : Type} (d : Nat) : q_T A d → Nat → A :=
  Nat.rec (motive := fun d => q_T A d → Nat → A) (fun t _ => t) (fun _ ih t i => bif Nat.beq (Nat.mod i 2) 1 then ih t.2 (Nat.div i 2) else ih t.1 (Nat.div i 2)) d
noncomputable def q_set {A : Type} (d : Nat) : q_T A d → Nat → A → q_T A d :=
  Nat.rec (motive := fun d => q_T A d → Nat → A → q_T A d) (fun _ _ v => v) (fun _ ih t i v => bif Nat.beq (Nat.mod i 2) 1 then (t.1, ih t.2 (Nat.div i 2) v) else (ih t.1 (Nat.div i 2) v, t.2)) d
noncomputable def q_mk {A : Type} (v : A) (d : Nat) : q_T A d :=
  Nat.rec (motive := fun d => q_T A d) v (fun _ ih => (ih, ih)) d
theorem q_beq1 (i : Nat) : Nat.beq (Nat.mod i 2) 1 = true ∧ i % 2 = 1 ∨ Nat.beq (Nat.mod i 2) 1 = false ∧ i % 2 = 0 := by
  have h : i % 2 = 0 ∨ i % 2 = 1 := by omega
  rcases h with h | h
  · refine Or.inr ⟨?_, h⟩
    show Nat.beq (i % 2) 1 = false
    rw [h]; rfl
  · refine Or.inl ⟨?_, h⟩
    show Nat.beq (i % 2) 1 = true
    rw [h]; rfl
theorem q_get_s {A : Type} (d : Nat) (t : q_T A (d + 1)) (i : Nat) : q_get (d + 1) t i = bif Nat.beq (Nat.mod i 2) 1 then q_get d t.2 (i / 2) else q_get d t.1 (i / 2) := rfl
theorem q_set_s {A : Type} (d : Nat) (t : q_T A (d + 1)) (i : Nat) (v : A) : q_set (d + 1) t i v = bif Nat.beq (Nat.mod i 2) 1 then (t.1, q_set d t.2 (i / 2) v) else (q_set d t.1 (i / 2) v, t.2) := rfl
theorem q_gs {A : Type} : ∀ (d : Nat) (t : q_T A d) (i j : Nat) (v : A), i < 2 ^ d → j < 2 ^ d → q_get d (q_set d t i v) j = if j = i then v else q_get d t j := by
  intro d
  induction d with
  | zero =>
    intro t i j v hi hj
    have e : j = i := by simp at hi hj; omega
    rw [if_pos e]; rfl
  | succ d ih =>
    intro t i j v hi hj
    have hi2 : i / 2 < 2 ^ d := by rw [Nat.pow_succ] at hi; omega
    have hj2 : j / 2 < 2 ^ d := by rw [Nat.pow_succ] at hj; omega
    rw [q_get_s, q_get_s, q_set_s]
    rcases q_beq1 i with ⟨b1, h1⟩ | ⟨b1, h1⟩ <;> rcases q_beq1 j with ⟨b2, h2⟩ | ⟨b2, h2⟩ <;> rw [b1, b2] <;> simp only [cond_true, cond_false]
    · rw [ih _ _ _ _ hi2 hj2]
      by_cases e : j = i
      · rw [if_pos e, if_pos (by rw [e])]
      · rw [if_neg e, if_neg (by omega)]
    · rw [if_neg (by omega)]
    · rw [if_neg (by omega)]
    · rw [ih _ _ _ _ hi2 hj2]
      by_cases e : j = i
      · rw [if_pos e, if_pos (by rw [e])]
      · rw [if_neg e, if_neg (by omega)]
theorem q_gm {A : Type} (v : A) : ∀ (d i : Nat), q_get d (q_mk v d) i = v := by
  intro d
  induction d with
  | zero => intro i; rfl
  | succ d ih =>
    intro i
    rw [q_get_s]
    rcases q_beq1 i with ⟨b1, -⟩ | ⟨b1, -⟩ <;> rw [b1]
    · exact ih _
    · exact ih _
-- numbers
noncomputable def q_sl (n : Nat) : Int := bif Nat.ble n 2147483647 then Int.ofNat n else Int.negSucc (Nat.sub 4294967295 n)
noncomputable def q_w32 (z : Int) : Int := match z with
  | .ofNat n => bif Nat.ble n 2147483647 then Int.ofNat n else q_sl (Nat.mod n 4294967296)
  | .negSucc n => bif Nat.ble n 2147483647 then Int.negSucc n else q_sl (Nat.sub 4294967295 (Nat.mod n 4294967296))
noncomputable def q_sm (n : Nat) : Int := bif Nat.ble n 9223372036854775807 then Int.ofNat n else Int.negSucc (Nat.sub 18446744073709551615 n)
noncomputable def q_w64 (z : Int) : Int := match z with
  | .ofNat n => bif Nat.ble n 9223372036854775807 then Int.ofNat n else q_sm (Nat.mod n 18446744073709551616)
  | .negSucc n => bif Nat.ble n 9223372036854775807 then Int.negSucc n else q_sm (Nat.sub 18446744073709551615 (Nat.mod n 18446744073709551616))
/-- 0: less, 1: equal, 2: greater -/
noncomputable def q_cmp (a b : Int) : Nat := match a, b with
  | .ofNat x, .ofNat y => bif Nat.ble y x then (bif Nat.ble x y then 1 else 2) else 0
  | .ofNat _, .negSucc _ => 2
  | .negSucc _, .ofNat _ => 0
  | .negSucc x, .negSucc y => bif Nat.ble y x then (bif Nat.ble x y then 1 else 0) else 2
theorem q_ble {a b : Nat} : (Nat.ble a b = true ∧ a ≤ b) ∨ (Nat.ble a b = false ∧ b < a) := by
  cases h : Nat.ble a b
  · refine Or.inr ⟨rfl, ?_⟩
    have h2 : ¬ a ≤ b := fun q => by rw [Nat.ble_eq_true_of_le q] at h; cases h
    omega
  · exact Or.inl ⟨rfl, Nat.le_of_ble_eq_true h⟩
theorem q_sl_s (n : Nat) (h : n < 4294967296) : (q_sl n = (n : Int) ∧ n < 2147483648) ∨ (q_sl n = (n : Int) - 4294967296 ∧ 2147483648 ≤ n) := by
  unfold q_sl
  rcases q_ble (a := n) (b := 2147483647) with ⟨e, h1⟩ | ⟨e, h1⟩ <;> rw [e] <;> simp only [cond_true, cond_false]
  · exact Or.inl ⟨rfl, by omega⟩
  · refine Or.inr ⟨?_, by omega⟩
    show Int.negSucc (4294967295 - n) = _
    omega
theorem q_sm_s (n : Nat) (h : n < 18446744073709551616) : (q_sm n = (n : Int) ∧ n < 9223372036854775808) ∨ (q_sm n = (n : Int) - 18446744073709551616 ∧ 9223372036854775808 ≤ n) := by
  unfold q_sm
  rcases q_ble (a := n) (b := 9223372036854775807) with ⟨e, h1⟩ | ⟨e, h1⟩ <;> rw [e] <;> simp only [cond_true, cond_false]
  · exact Or.inl ⟨rfl, by omega⟩
  · refine Or.inr ⟨?_, by omega⟩
    show Int.negSucc (18446744073709551615 - n) = _
    omega
/-- in range, and the same number modulo the word -/
theorem q_w32_s (z : Int) : -2147483648 ≤ q_w32 z ∧ q_w32 z < 2147483648 ∧ ∃ k : Int, q_w32 z = z + k * 4294967296 := by
  cases z with
  | ofNat n =>
    show _ ≤ (bif Nat.ble n 2147483647 then Int.ofNat n else q_sl (n % 4294967296)) ∧ (bif Nat.ble n 2147483647 then Int.ofNat n else q_sl (n % 4294967296)) < _ ∧ ∃ k : Int, (bif Nat.ble n 2147483647 then Int.ofNat n else q_sl (n % 4294967296)) = _
    rcases q_ble (a := n) (b := 2147483647) with ⟨e, h1⟩ | ⟨e, h1⟩ <;> rw [e] <;> simp only [cond_true, cond_false]
    · exact ⟨by simp only [Int.ofNat_eq_natCast]; omega, by simp only [Int.ofNat_eq_natCast]; omega, 0, by omega⟩
    · have hm : n % 4294967296 < 4294967296 := Nat.mod_lt _ (by decide)
      rcases q_sl_s _ hm with ⟨e2, h2⟩ | ⟨e2, h2⟩ <;> rw [e2]
      · exact ⟨by omega, by omega, -((n / 4294967296 : Nat) : Int), by simp only [Int.ofNat_eq_natCast]; omega⟩
      · exact ⟨by omega, by omega, -((n / 4294967296 : Nat) : Int) - 1, by simp only [Int.ofNat_eq_natCast]; omega⟩
  | negSucc n =>
    show _ ≤ (bif Nat.ble n 2147483647 then Int.negSucc n else q_sl (4294967295 - n % 4294967296)) ∧ (bif Nat.ble n 2147483647 then Int.negSucc n else q_sl (4294967295 - n % 4294967296)) < _ ∧ ∃ k : Int, (bif Nat.ble n 2147483647 then Int.negSucc n else q_sl (4294967295 - n % 4294967296)) = _
    rcases q_ble (a := n) (b := 2147483647) with ⟨e, h1⟩ | ⟨e, h1⟩ <;> rw [e] <;> simp only [cond_true, cond_false]
    · exact ⟨by omega, by omega, 0, by omega⟩
    · have hm : n % 4294967296 < 4294967296 := Nat.mod_lt _ (by decide)
      rcases q_sl_s (4294967295 - n % 4294967296) (by omega) with ⟨e2, h2⟩ | ⟨e2, h2⟩ <;> rw [e2]
      · exact ⟨by omega, by omega, ((n / 4294967296 : Nat) : Int) + 1, by omega⟩
      · exact ⟨by omega, by omega, ((n / 4294967296 : Nat) : Int), by omega⟩
theorem q_w64_s (z : Int) : -9223372036854775808 ≤ q_w64 z ∧ q_w64 z < 9223372036854775808 ∧ ∃ k : Int, q_w64 z = z + k * 18446744073709551616 := by
  cases z with
  | ofNat n =>
    show _ ≤ (bif Nat.ble n 9223372036854775807 then Int.ofNat n else q_sm (n % 18446744073709551616)) ∧ (bif Nat.ble n 9223372036854775807 then Int.ofNat n else q_sm (n % 18446744073709551616)) < _ ∧ ∃ k : Int, (bif Nat.ble n 9223372036854775807 then Int.ofNat n else q_sm (n % 18446744073709551616)) = _
    rcases q_ble (a := n) (b := 9223372036854775807) with ⟨e, h1⟩ | ⟨e, h1⟩ <;> rw [e] <;> simp only [cond_true, cond_false]
    · exact ⟨by simp only [Int.ofNat_eq_natCast]; omega, by simp only [Int.ofNat_eq_natCast]; omega, 0, by omega⟩
    · have hm : n % 18446744073709551616 < 18446744073709551616 := Nat.mod_lt _ (by decide)
      rcases q_sm_s _ hm with ⟨e2, h2⟩ | ⟨e2, h2⟩ <;> rw [e2]
      · exact ⟨by omega, by omega, -((n / 18446744073709551616 : Nat) : Int), by simp only [Int.ofNat_eq_natCast]; omega⟩
      · exact ⟨by omega, by omega, -((n / 18446744073709551616 : Nat) : Int) - 1, by simp only [Int.ofNat_eq_natCast]; omega⟩
  | negSucc n =>
    show _ ≤ (bif Nat.ble n 9223372036854775807 then Int.negSucc n else q_sm (18446744073709551615 - n % 18446744073709551616)) ∧ (bif Nat.ble n 9223372036854775807 then Int.negSucc n else q_sm (18446744073709551615 - n % 18446744073709551616)) < _ ∧ ∃ k : Int, (bif Nat.ble n 9223372036854775807 then Int.negSucc n else q_sm (18446744073709551615 - n % 18446744073709551616)) = _
    rcases q_ble (a := n) (b := 9223372036854775807) with ⟨e, h1⟩ | ⟨e, h1⟩ <;> rw [e] <;> simp only [cond_true, cond_false]
    · exact ⟨by omega, by omega, 0, by omega⟩
    · have hm : n % 18446744073709551616 < 18446744073709551616 := Nat.mod_lt _ (by decide)
      rcases q_sm_s (18446744073709551615 - n % 18446744073709551616) (by omega) with ⟨e2, h2⟩ | ⟨e2, h2⟩ <;> rw [e2]
      · exact ⟨by omega, by omega, ((n / 18446744073709551616 : Nat) : Int) + 1, by omega⟩
      · exact ⟨by omega, by omega, ((n / 18446744073709551616 : Nat) : Int), by omega⟩
theorem q_w32_m (z : Int) : (Int32.ofInt z).toInt = q_w32 z := by
  obtain ⟨h1, h2, k, h3⟩ := q_w32_s z
  rw [Int32.toInt_ofInt]
  generalize q_w32 z = y at h1 h2 h3 ⊢
  have e : z = y + (-k) * 4294967296 := by omega
  rw [e]
  show Int.bmod (y + -k * 4294967296) (2 ^ 32) = y
  rw [show ((4294967296 : Int)) = (((2 ^ 32 : Nat)) : Int) by decide, Int.add_mul_bmod_self_right]
  exact Int.bmod_eq_of_le (by omega) (by omega)
theorem q_w64_m (z : Int) : (Int64.ofInt z).toInt = q_w64 z := by
  obtain ⟨h1, h2, k, h3⟩ := q_w64_s z
  rw [Int64.toInt_ofInt]
  generalize q_w64 z = y at h1 h2 h3 ⊢
  have e : z = y + (-k) * 18446744073709551616 := by omega
  rw [e]
  show Int.bmod (y + -k * 18446744073709551616) (2 ^ 64) = y
  rw [show ((18446744073709551616 : Int)) = (((2 ^ 64 : Nat)) : Int) by decide, Int.add_mul_bmod_self_right]
  exact Int.bmod_eq_of_le (by omega) (by omega)
theorem q_w32_id {z : Int} (h1 : -2147483648 ≤ z) (h2 : z < 2147483648) : q_w32 z = z := by
  obtain ⟨g1, g2, k, g3⟩ := q_w32_s z
  omega
theorem q_w64_id {z : Int} (h1 : -9223372036854775808 ≤ z) (h2 : z < 9223372036854775808) : q_w64 z = z := by
  obtain ⟨g1, g2, k, g3⟩ := q_w64_s z
  omega
theorem q_o32 (z : Int) : Int32.ofInt (q_w32 z) = Int32.ofInt z := by
  apply Int32.toInt_inj.mp
  obtain ⟨h1, h2, -⟩ := q_w32_s z
  rw [q_w32_m, q_w32_m, q_w32_id h1 h2]
theorem q_o64 (z : Int) : Int64.ofInt (q_w64 z) = Int64.ofInt z := by
  apply Int64.toInt_inj.mp
  obtain ⟨h1, h2, -⟩ := q_w64_s z
  rw [q_w64_m, q_w64_m, q_w64_id h1 h2]
theorem q_cmp_s (a b : Int) : (q_cmp a b = 0 ∧ a < b) ∨ (q_cmp a b = 1 ∧ a = b) ∨ (q_cmp a b = 2 ∧ b < a) := by
  cases a with
  | ofNat x =>
    cases b with
    | ofNat y =>
      show ((bif Nat.ble y x then (bif Nat.ble x y then 1 else 2) else 0) = 0 ∧ _) ∨ ((bif Nat.ble y x then (bif Nat.ble x y then 1 else 2) else 0) = 1 ∧ _) ∨ ((bif Nat.ble y x then (bif Nat.ble x y then 1 else 2) else 0) = 2 ∧ _)
      simp only [Int.ofNat_eq_natCast]
      rcases q_ble (a := y) (b := x) with ⟨e, h⟩ | ⟨e, h⟩ <;> rcases q_ble (a := x) (b := y) with ⟨e2, h2⟩ | ⟨e2, h2⟩ <;> rw [e] <;> (try rw [e2]) <;> simp only [cond_true, cond_false]
      · exact Or.inr (Or.inl ⟨trivial, by omega⟩)
      · exact Or.inr (Or.inr ⟨trivial, by omega⟩)
      · exact Or.inl ⟨trivial, by omega⟩
      · omega
    | negSucc y => exact Or.inr (Or.inr ⟨rfl, by simp only [Int.ofNat_eq_natCast]; omega⟩)
  | negSucc x =>
    cases b with
    | ofNat y => exact Or.inl ⟨rfl, by simp only [Int.ofNat_eq_natCast]; omega⟩
    | negSucc y =>
      show ((bif Nat.ble y x then (bif Nat.ble x y then 1 else 0) else 2) = 0 ∧ _) ∨ ((bif Nat.ble y x then (bif Nat.ble x y then 1 else 0) else 2) = 1 ∧ _) ∨ ((bif Nat.ble y x then (bif Nat.ble x y then 1 else 0) else 2) = 2 ∧ _)
      rcases q_ble (a := y) (b := x) with ⟨e, h⟩ | ⟨e, h⟩ <;> rcases q_ble (a := x) (b := y) with ⟨e2, h2⟩ | ⟨e2, h2⟩ <;> rw [e] <;> (try rw [e2]) <;> simp only [cond_true, cond_false]
      · exact Or.inr (Or.inl ⟨trivial, by omega⟩)
      · exact Or.inl ⟨trivial, by omega⟩
      · exact Or.inr (Or.inr ⟨trivial, by omega⟩)
      · omega
theorem q_add32 (a b : Int) : Int32.ofInt a + Int32.ofInt b = Int32.ofInt (q_w32 (a + b)) := by rw [q_o32, Int32.ofInt_add]
theorem q_sub32 (a b : Int) : Int32.ofInt a - Int32.ofInt b = Int32.ofInt (q_w32 (a - b)) := by rw [q_o32, Int32.ofInt_sub]
theorem q_mul32 (a b : Int) : Int32.ofInt a * Int32.ofInt b = Int32.ofInt (q_w32 (a * b)) := by rw [q_o32, Int32.ofInt_mul]
theorem q_add64 (a b : Int) : Int64.ofInt a + Int64.ofInt b = Int64.ofInt (q_w64 (a + b)) := by rw [q_o64, Int64.ofInt_add]
theorem q_sub64 (a b : Int) : Int64.ofInt a - Int64.ofInt b = Int64.ofInt (q_w64 (a - b)) := by rw [q_o64, Int64.ofInt_sub]
theorem q_mul64 (a b : Int) : Int64.ofInt a * Int64.ofInt b = Int64.ofInt (q_w64 (a * b)) := by rw [q_o64, Int64.ofInt_mul]
theorem q_il (a : Int) : (Int32.ofInt a).toInt64 = Int64.ofInt (q_w32 a) := by
  apply Int64.toInt_inj.mp
  obtain ⟨h1, h2, -⟩ := q_w32_s a
  rw [Int32.toInt_toInt64, q_w32_m, q_w64_m, q_w64_id (by omega) (by omega)]
theorem q_li (a : Int) : (Int64.ofInt a).toInt32 = Int32.ofInt (q_w32 a) := by
  rw [q_o32]
  apply Int32.toInt_inj.mp
  rw [Int64.toInt_toInt32, Int64.toInt_ofInt, Int32.toInt_ofInt]
  exact Int.bmod_bmod_of_dvd (by decide)
end
section
/-! Part 04: the pure machine. A value is (kind, number): 0 an int, 1 a long, 2 a reference to the cell of that place, 3 null, 4 a float's bits, 5 a double's bits, 6 the script's int of that place, 7 the same as a long, 8 some int, 9 the script, 10 some reference. -/
abbrev q_V := Nat × Int
abbrev q_L := List (Nat × q_V)
abbrev q_I := List (Int × Int)
/-- kind (0 an object, 1 int, 2 byte, 3 long, 4 double, 5 references), class or length, fields, elements -/
abbrev q_Ce := Nat × Nat × List q_V × q_T q_V 11
abbrev q_H := Nat × q_T q_Ce 8
/-- pc, locals, stack, heap, intervals, cells, slots -/
abbrev q_C := Nat × q_L × List q_V × q_H × q_I × Nat × Nat
/-- 0 returned nothing, 1 returned the value, 2 + E threw the exception E -/
abbrev q_Lf := Nat × q_V × q_H × q_I
/-- instruction, length, two numbers, an int -/
abbrev q_E := Instr × Nat × Nat × Nat × Int
/-- code; locals, class, arguments, kind of answer; frames, locals, cells, slots; handlers (from, to, handler, exception) -/
abbrev q_MI := (Nat → q_E) × (Nat × Nat × Nat × Nat) × (Nat × Nat × Nat × Nat) × List (Nat × Nat × Nat × Nat)
noncomputable def q_n (d : Nat) (l r : q_T q_E d) : q_T q_E (d + 1) := (l, r)
noncomputable def q_l (i : Instr) (n x y : Nat) (v : Int) : q_T q_E 0 := (i, n, x, y, v)
noncomputable def q_e0 : q_E := (.nop, 0, 0, 0, 0)
noncomputable def q_if {α : Type} (b : Bool) (k : Option α) : Option α := bif b then k else none
noncomputable def q_lk (i : Nat) : q_L → Option q_V := fun lo => List.rec (motive := fun _ => Option q_V) none (fun h _ ih => bif Nat.beq h.1 i then some h.2 else ih) lo
noncomputable def q_nth {α : Type} : List α → Nat → Option α := fun l => List.rec (motive := fun _ => Nat → Option α) (fun _ => none) (fun h _ ih n => Nat.rec (motive := fun _ => Option α) (some h) (fun m _ => ih m) n) l
noncomputable def q_up {α : Type} : List α → Nat → α → List α := fun l => List.rec (motive := fun _ => Nat → α → List α) (fun _ _ => []) (fun h t ih n v => Nat.rec (motive := fun _ => List α) (v :: t) (fun m _ => h :: ih m v) n) l
noncomputable def q_len {α : Type} : List α → Nat := fun l => List.rec (motive := fun _ => Nat) 0 (fun _ _ ih => Nat.succ ih) l
noncomputable def q_app {α : Type} : List α → List α → List α := fun l m => List.rec (motive := fun _ => List α) m (fun h _ ih => h :: ih) l
noncomputable def q_map {α β : Type} (f : α → β) : List α → List β := fun l => List.rec (motive := fun _ => List β) [] (fun h _ ih => f h :: ih) l
noncomputable def q_pop {α : Type} (st : List α) : Option (α × List α) := match st with
  | [] => none
  | a :: r => some (a, r)
noncomputable def q_isI (t : Nat) : Bool := bif Nat.beq t 0 then true else bif Nat.beq t 6 then true else Nat.beq t 8
noncomputable def q_isJ (t : Nat) : Bool := bif Nat.beq t 1 then true else Nat.beq t 7
noncomputable def q_isR (t : Nat) : Bool := bif Nat.beq t 2 then true else bif Nat.beq t 9 then true else Nat.beq t 10
noncomputable def q_is2 (t : Nat) : Bool := bif Nat.beq t 1 then true else bif Nat.beq t 7 then true else Nat.beq t 5
noncomputable def q_ieq (a b : Int) : Bool := Nat.beq (q_cmp a b) 1
noncomputable def q_ile (a b : Int) : Bool := bif Nat.beq (q_cmp a b) 2 then false else true
/-- a script's int that is known by now -/
noncomputable def q_conc (iv : q_I) (a : q_V) : q_V := bif Nat.ble 6 a.1 then (bif Nat.ble a.1 7 then (match q_nth iv a.2.toNat with
  | some p => bif q_ieq p.1 p.2 then (bif Nat.beq a.1 6 then (0, p.1) else (1, p.1)) else a
  | none => a) else a) else a
/-- a store of one word; of two -/
noncomputable def q_fil (i : Nat) (w : Bool) (lo : q_L) : q_L := List.rec (motive := fun _ => q_L) [] (fun h _ ih => bif Nat.beq h.1 i then ih else bif (bif w then Nat.beq h.1 (Nat.succ i) else false) then ih else bif (bif Nat.beq (Nat.succ h.1) i then q_is2 h.2.1 else false) then ih else h :: ih) lo
noncomputable def q_sto (i : Nat) (w : Bool) (a : q_V) (lo : q_L) : q_L := (i, a) :: q_fil i w lo
abbrev q_O := Option (List q_C × List q_Lf)
noncomputable def q_nx (pc : Nat) (lo : q_L) (st : List q_V) (hp : q_H) (iv : q_I) (cl sl : Nat) : q_O := some ([(pc, lo, st, hp, iv, cl, sl)], [])
/-- the pieces of an interval below, at and above a number -/
noncomputable def q_split (iv : q_I) (i : Nat) (k : Int) : Option (List (Nat × q_I)) := (q_nth iv i).bind fun p =>
  some (q_app (bif (bif q_ile p.1 p.2 then Nat.beq (q_cmp p.1 k) 0 else false) then [(0, q_up iv i (p.1, bif q_ile p.2 (Int.sub k 1) then p.2 else Int.sub k 1))] else [])
    (q_app (bif (bif q_ile p.1 k then q_ile k p.2 else false) then [(1, q_up iv i (k, k))] else [])
      (bif Nat.beq (q_cmp k p.2) 0 then [(2, q_up iv i (bif q_ile (Int.add k 1) p.1 then p.1 else Int.add k 1, p.2))] else [])))
/-- comparison: 0 less, 1 equal, 2 greater, each with the intervals then -/
noncomputable def q_c3 (iv : q_I) (a b : q_V) : Option (List (Nat × q_I)) :=
  bif (bif Nat.beq a.1 0 then Nat.beq b.1 0 else false) then some [(q_cmp (q_w32 a.2) (q_w32 b.2), iv)]
  else bif (bif Nat.beq a.1 1 then Nat.beq b.1 1 else false) then some [(q_cmp (q_w64 a.2) (q_w64 b.2), iv)]
  else bif (bif Nat.beq a.1 6 then Nat.beq b.1 0 else false) then q_split iv a.2.toNat (q_w32 b.2)
  else bif (bif Nat.beq a.1 7 then Nat.beq b.1 1 else false) then q_split iv a.2.toNat (q_w64 b.2)
  else bif (bif Nat.beq b.1 6 then Nat.beq a.1 0 else false) then (q_split iv b.2.toNat (q_w32 a.2)).bind fun l => some (q_map (fun q => (Nat.sub 2 q.1, q.2)) l)
  else bif (bif Nat.beq b.1 7 then Nat.beq a.1 1 else false) then (q_split iv b.2.toNat (q_w64 a.2)).bind fun l => some (q_map (fun q => (Nat.sub 2 q.1, q.2)) l)
  else none
/-- every number of a short interval -/
noncomputable def q_span (iv : q_I) (i : Nat) (lo : Int) : Nat → List (Int × q_I) := fun n => Nat.rec (motive := fun _ => List (Int × q_I)) [] (fun m ih => (Int.add lo (Int.ofNat m), q_up iv i (Int.add lo (Int.ofNat m), Int.add lo (Int.ofNat m))) :: ih) n
noncomputable def q_enum (iv : q_I) (a : q_V) : Option (List (Int × q_I)) :=
  bif Nat.beq a.1 0 then some [(q_w32 a.2, iv)] else
  bif Nat.beq a.1 6 then (q_nth iv a.2.toNat).bind fun p => q_if (bif q_ile p.1 p.2 then q_ile (Int.sub p.2 p.1) 70 else false) (some (q_span iv a.2.toNat p.1 (Nat.succ (Int.sub p.2 p.1).toNat)))
  else none
noncomputable def q_tk (c : ClassFile.Cond) (r : Nat) : Bool := match c with
  | .eq => Nat.beq r 1
  | .ne => bif Nat.beq r 1 then false else true
  | .lt => Nat.beq r 0
  | .ge => bif Nat.beq r 0 then false else true
  | .gt => Nat.beq r 2
  | .le => bif Nat.beq r 2 then false else true
/-- the cell of a reference -/
noncomputable def q_at (hp : q_H) (a : q_V) : Option q_Ce := q_if (bif Nat.beq a.1 2 then Nat.ble (Nat.succ a.2.toNat) hp.1 else false) (some (q_get 8 hp.2 a.2.toNat))
noncomputable def q_put (hp : q_H) (k : Nat) (e : q_Ce) : q_H := (hp.1, q_set 8 hp.2 k e)
noncomputable def q_new (hp : q_H) (e : q_Ce) : q_H := (Nat.succ hp.1, q_set 8 hp.2 hp.1 e)
noncomputable def q_z0 : q_V := (0, 0)
noncomputable def q_zT : q_T q_V 11 := q_mk q_z0 11
-- the instructions
noncomputable def q_oLoad (P : Nat → Bool) (x : Nat) (nx : Nat) (lo : q_L) (st : List q_V) (hp : q_H) (iv : q_I) (cl sl : Nat) : q_O :=
  (q_lk x lo).bind fun a => q_if (P a.1) (q_nx nx lo (q_conc iv a :: st) hp iv cl sl)
noncomputable def q_oStore (P : Nat → Bool) (w : Bool) (x : Nat) (nx : Nat) (lo : q_L) (st : List q_V) (hp : q_H) (iv : q_I) (cl sl : Nat) : q_O :=
  (q_pop st).bind fun p => q_if (P p.1.1) (q_if (Nat.ble (q_len (q_sto x w p.1 lo)) 32) (q_nx nx (q_sto x w p.1 lo) p.2 hp iv cl sl))
noncomputable def q_oBin (t : Nat) (f : Int → Int → Int) (nx : Nat) (lo : q_L) (st : List q_V) (hp : q_H) (iv : q_I) (cl sl : Nat) : q_O :=
  (q_pop st).bind fun p => (q_pop p.2).bind fun r => q_if (bif Nat.beq p.1.1 t then Nat.beq r.1.1 t else false) (q_nx nx lo ((t, f r.1.2 p.1.2) :: r.2) hp iv cl sl)
noncomputable def q_oDiv (t : Nat) (f : Int → Int → Int) (w : Int → Int) (nx : Nat) (lo : q_L) (st : List q_V) (hp : q_H) (iv : q_I) (cl sl : Nat) : q_O :=
  (q_pop st).bind fun p => (q_pop p.2).bind fun r => q_if (bif Nat.beq p.1.1 t then (bif Nat.beq r.1.1 t then (bif q_ieq (w p.1.2) 0 then false else true) else false) else false) (q_nx nx lo ((t, f r.1.2 p.1.2) :: r.2) hp iv cl sl)
/-- of known ints the answer; of others some int -/
noncomputable def q_oAny (f : Int → Int → Int) (nx : Nat) (lo : q_L) (st : List q_V) (hp : q_H) (iv : q_I) (cl sl : Nat) : q_O :=
  (q_pop st).bind fun p => (q_pop p.2).bind fun r => bif (bif Nat.beq p.1.1 0 then Nat.beq r.1.1 0 else false) then q_nx nx lo ((0, f r.1.2 p.1.2) :: r.2) hp iv cl sl
    else q_if (bif q_isI p.1.1 then q_isI r.1.1 else false) (q_nx nx lo ((8, 0) :: r.2) hp iv cl sl)
noncomputable def q_oAnd (nx : Nat) (lo : q_L) (st : List q_V) (hp : q_H) (iv : q_I) (cl sl : Nat) : q_O :=
  (q_pop st).bind fun p => (q_pop p.2).bind fun r => bif (bif Nat.beq p.1.1 0 then (bif Nat.beq r.1.1 6 then (bif Nat.beq r.1.2.toNat 0 then q_ieq p.1.2 63 else false) else false) else false) then q_nx nx lo (q_conc iv (6, 6) :: r.2) hp iv cl sl
    else q_oAny (fun a b => (Int32.ofInt a &&& Int32.ofInt b).toInt) nx lo st hp iv cl sl
noncomputable def q_oUn (t u : Nat) (f : Int → Int) (nx : Nat) (lo : q_L) (st : List q_V) (hp : q_H) (iv : q_I) (cl sl : Nat) : q_O :=
  (q_pop st).bind fun p => q_if (Nat.beq p.1.1 t) (q_nx nx lo ((u, f p.1.2) :: p.2) hp iv cl sl)
noncomputable def q_oI2l (nx : Nat) (lo : q_L) (st : List q_V) (hp : q_H) (iv : q_I) (cl sl : Nat) : q_O :=
  (q_pop st).bind fun p => bif Nat.beq p.1.1 0 then q_nx nx lo ((1, q_w32 p.1.2) :: p.2) hp iv cl sl else q_if (Nat.beq p.1.1 6) (q_nx nx lo ((7, p.1.2) :: p.2) hp iv cl sl)
noncomputable def q_oL2i (nx : Nat) (lo : q_L) (st : List q_V) (hp : q_H) (iv : q_I) (cl sl : Nat) : q_O :=
  (q_pop st).bind fun p => bif Nat.beq p.1.1 1 then q_nx nx lo ((0, q_w32 p.1.2) :: p.2) hp iv cl sl else q_if (Nat.beq p.1.1 7) (q_nx nx lo ((6, p.1.2) :: p.2) hp iv cl sl)
noncomputable def q_oI2b (nx : Nat) (lo : q_L) (st : List q_V) (hp : q_H) (iv : q_I) (cl sl : Nat) : q_O :=
  (q_pop st).bind fun p => q_if (q_isI p.1.1) (q_nx nx lo ((8, 0) :: p.2) hp iv cl sl)
noncomputable def q_oLcmp (nx : Nat) (lo : q_L) (st : List q_V) (hp : q_H) (iv : q_I) (cl sl : Nat) : q_O :=
  (q_pop st).bind fun p => (q_pop p.2).bind fun r => q_if (bif q_isJ p.1.1 then q_isJ r.1.1 else false) ((q_c3 iv r.1 p.1).bind fun l => some (q_map (fun q => (nx, lo, (0, Int.sub (Int.ofNat q.1) 1) :: r.2, hp, q.2, cl, sl)) l, []))
noncomputable def q_oIf (c : ClassFile.Cond) (x : Nat) (nx : Nat) (lo : q_L) (st : List q_V) (hp : q_H) (iv : q_I) (cl sl : Nat) : q_O :=
  (q_pop st).bind fun p => q_if (q_isI p.1.1) ((q_c3 iv p.1 (0, 0)).bind fun l => some (q_map (fun q => (bif q_tk c q.1 then x else nx, lo, p.2, hp, q.2, cl, sl)) l, []))
noncomputable def q_oIc (c : ClassFile.Cond) (x : Nat) (nx : Nat) (lo : q_L) (st : List q_V) (hp : q_H) (iv : q_I) (cl sl : Nat) : q_O :=
  (q_pop st).bind fun p => (q_pop p.2).bind fun r => q_if (bif q_isI p.1.1 then q_isI r.1.1 else false) ((q_c3 iv r.1 p.1).bind fun l => some (q_map (fun q => (bif q_tk c q.1 then x else nx, lo, r.2, hp, q.2, cl, sl)) l, []))
noncomputable def q_oIfn (x : Nat) (nx : Nat) (lo : q_L) (st : List q_V) (hp : q_H) (iv : q_I) (cl sl : Nat) : q_O :=
  (q_pop st).bind fun p => bif Nat.beq p.1.1 3 then q_nx x lo p.2 hp iv cl sl else q_if (q_isR p.1.1) (q_nx nx lo p.2 hp iv cl sl)
/-- a switch: the targets by the values -/
noncomputable def q_tgt (pc : Nat) (d lo hi : Int) (offs : Array Int) (n : Int) : Option Nat :=
  bif (bif q_ile lo n then q_ile n hi else false) then (q_nth offs.toList (Int.sub n lo).toNat).bind fun o => q_if (q_ile 0 (Int.add (Int.ofNat pc) o)) (some (Int.add (Int.ofNat pc) o).toNat)
  else q_if (q_ile 0 (Int.add (Int.ofNat pc) d)) (some (Int.add (Int.ofNat pc) d).toNat)
noncomputable def q_all {α β : Type} (f : α → Option β) : List α → Option (List β) := fun l => List.rec (motive := fun _ => Option (List β)) (some []) (fun h _ ih => (f h).bind fun b => ih.bind fun bs => some (b :: bs)) l
noncomputable def q_oSw (d lo hi : Int) (offs : Array Int) (pc : Nat) (loc : q_L) (st : List q_V) (hp : q_H) (iv : q_I) (cl sl : Nat) : q_O :=
  (q_pop st).bind fun p => q_if (q_isI p.1.1) ((q_c3 iv p.1 (0, lo)).bind fun l1 => (q_all (fun q1 => bif Nat.beq q1.1 0 then (q_tgt pc d lo hi offs (Int.sub lo 1)).bind fun t => some [(t, loc, p.2, hp, q1.2, cl, sl)]
    else (q_c3 q1.2 (q_conc q1.2 p.1) (0, hi)).bind fun l2 => (q_all (fun q2 => bif Nat.beq q2.1 2 then (q_tgt pc d lo hi offs (Int.add hi 1)).bind fun t => some [(t, loc, p.2, hp, q2.2, cl, sl)]
      else (q_enum q2.2 (q_conc q2.2 p.1)).bind fun l3 => q_all (fun q3 => (q_tgt pc d lo hi offs q3.1).bind fun t => some (t, loc, p.2, hp, q3.2, cl, sl)) l3) l2).bind fun bs => some (List.rec (motive := fun _ => List q_C) [] (fun h _ ih => q_app h ih) bs)) l1).bind fun bs => some (List.rec (motive := fun _ => List q_C) [] (fun h _ ih => q_app h ih) bs, []))
noncomputable def q_oGet (x y : Nat) (nx : Nat) (lo : q_L) (st : List q_V) (hp : q_H) (iv : q_I) (cl sl : Nat) : q_O :=
  (q_pop st).bind fun p => (q_at hp p.1).bind fun e => q_if (bif Nat.beq e.1 0 then Nat.beq e.2.1 x else false) ((q_nth e.2.2.1 y).bind fun a => q_nx nx lo (q_conc iv a :: p.2) hp iv cl sl)
/-- may a field of this type hold it: 0 int, 1 boolean, 2 long, 3 a reference -/
noncomputable def q_fit (t : Nat) (a : q_V) : Bool := bif Nat.beq t 0 then q_isI a.1 else bif Nat.beq t 1 then (bif Nat.beq a.1 0 then (bif q_ieq a.2 0 then true else q_ieq a.2 1) else false) else bif Nat.beq t 2 then q_isJ a.1 else bif Nat.beq t 3 then Nat.beq a.1 2 else false
noncomputable def q_oPut (x y t : Nat) (nx : Nat) (lo : q_L) (st : List q_V) (hp : q_H) (iv : q_I) (cl sl : Nat) : q_O :=
  (q_pop st).bind fun p => (q_pop p.2).bind fun r => (q_at hp r.1).bind fun e => q_if (bif Nat.beq e.1 0 then (bif Nat.beq e.2.1 x then (bif q_fit t p.1 then Nat.ble (Nat.succ y) (q_len e.2.2.1) else false) else false) else false)
    (q_nx nx lo r.2 (q_put hp r.1.2.toNat (0, x, q_up e.2.2.1 y p.1, e.2.2.2)) iv cl sl)
noncomputable def q_oLen (sL : Nat) (nx : Nat) (lo : q_L) (st : List q_V) (hp : q_H) (iv : q_I) (cl sl : Nat) : q_O :=
  (q_pop st).bind fun p => bif Nat.beq p.1.1 9 then q_nx nx lo ((0, Int.ofNat sL) :: p.2) hp iv cl sl else (q_at hp p.1).bind fun e => q_if (Nat.ble 1 e.1) (q_nx nx lo ((0, Int.ofNat e.2.1) :: p.2) hp iv cl sl)
noncomputable def q_oAld (k sL : Nat) (nx : Nat) (lo : q_L) (st : List q_V) (hp : q_H) (iv : q_I) (cl sl : Nat) : q_O :=
  (q_pop st).bind fun p => (q_pop p.2).bind fun r => bif Nat.beq r.1.1 9 then q_if (bif Nat.beq k 1 then (bif Nat.beq p.1.1 0 then (bif q_ile 0 (q_w32 p.1.2) then Nat.ble (Nat.succ (q_w32 p.1.2).toNat) sL else false) else false) else false) (q_nx nx lo (q_conc iv (6, q_w32 p.1.2) :: r.2) hp iv cl sl)
    else (q_at hp r.1).bind fun e => q_if (Nat.beq e.1 k) ((q_enum iv p.1).bind fun l => (q_all (fun q => q_if (bif q_ile 0 q.1 then Nat.ble (Nat.succ q.1.toNat) e.2.1 else false) (some (nx, lo, q_conc q.2 (q_get 11 e.2.2.2 q.1.toNat) :: r.2, hp, q.2, cl, sl))) l).bind fun cs => some (cs, []))
/-- the value that an array of a kind keeps -/
noncomputable def q_kp (k : Nat) (a : q_V) : Option q_V := bif Nat.beq k 1 then q_if (q_isI a.1) (some a) else bif Nat.beq k 2 then q_if (q_isI a.1) (some (8, 0)) else bif Nat.beq k 3 then q_if (q_isJ a.1) (some a) else bif Nat.beq k 4 then q_if (Nat.beq a.1 5) (some a) else none
noncomputable def q_oAst (k : Nat) (nx : Nat) (lo : q_L) (st : List q_V) (hp : q_H) (iv : q_I) (cl sl : Nat) : q_O :=
  (q_pop st).bind fun v => (q_kp k v.1).bind fun w => (q_pop v.2).bind fun p => (q_pop p.2).bind fun r => (q_at hp r.1).bind fun e => q_if (Nat.beq e.1 k) ((q_enum iv p.1).bind fun l => (q_all (fun q => q_if (bif q_ile 0 q.1 then Nat.ble (Nat.succ q.1.toNat) e.2.1 else false) (some (nx, lo, r.2, q_put hp r.1.2.toNat (k, e.2.1, e.2.2.1, q_set 11 e.2.2.2 q.1.toNat w), q.2, cl, sl))) l).bind fun cs => some (cs, []))
/-- into an array of references: an object of the class of number c -/
noncomputable def q_oAsr (c : Nat) (nx : Nat) (lo : q_L) (st : List q_V) (hp : q_H) (iv : q_I) (cl sl : Nat) : q_O :=
  (q_pop st).bind fun v => (q_at hp v.1).bind fun o => q_if (bif Nat.beq o.1 0 then Nat.beq o.2.1 c else false) ((q_pop v.2).bind fun p => (q_pop p.2).bind fun r => (q_at hp r.1).bind fun e => q_if (bif Nat.beq e.1 5 then (bif Nat.beq p.1.1 0 then (bif q_ile 0 (q_w32 p.1.2) then Nat.ble (Nat.succ (q_w32 p.1.2).toNat) e.2.1 else false) else false) else false)
    (q_nx nx lo r.2 (q_put hp r.1.2.toNat (5, e.2.1, e.2.2.1, q_set 11 e.2.2.2 (q_w32 p.1.2).toNat v.1)) iv cl sl))
noncomputable def q_oNew (x : Nat) (fs : List q_V) (mc ms : Nat) (nx : Nat) (lo : q_L) (st : List q_V) (hp : q_H) (iv : q_I) (cl sl : Nat) : q_O :=
  q_if (bif Nat.ble (Nat.succ cl) mc then (bif Nat.ble (Nat.add sl (q_len fs)) ms then Nat.ble (Nat.succ hp.1) 256 else false) else false) (q_nx nx lo ((2, Int.ofNat hp.1) :: st) (q_new hp (0, x, fs, q_zT)) iv (Nat.succ cl) (Nat.add sl (q_len fs)))
noncomputable def q_oNwa (k : Nat) (z : q_V) (mc ms : Nat) (nx : Nat) (lo : q_L) (st : List q_V) (hp : q_H) (iv : q_I) (cl sl : Nat) : q_O :=
  (q_pop st).bind fun p => q_if (bif Nat.beq p.1.1 0 then (bif q_ile 0 (q_w32 p.1.2) then (bif q_ile (q_w32 p.1.2) 2000 then (bif Nat.ble (Nat.succ cl) mc then (bif Nat.ble (Nat.add sl (q_w32 p.1.2).toNat) ms then Nat.ble (Nat.succ hp.1) 256 else false) else false) else false) else false) else false)
    (q_nx nx lo ((2, Int.ofNat hp.1) :: p.2) (q_new hp (k, (q_w32 p.1.2).toNat, [], q_mk z 11)) iv (Nat.succ cl) (Nat.add sl (q_w32 p.1.2).toNat))
noncomputable def q_oDup (nx : Nat) (lo : q_L) (st : List q_V) (hp : q_H) (iv : q_I) (cl sl : Nat) : q_O :=
  (q_pop st).bind fun p => bif q_is2 p.1.1 then none else q_nx nx lo (p.1 :: p.1 :: p.2) hp iv cl sl
noncomputable def q_oPop (nx : Nat) (lo : q_L) (st : List q_V) (hp : q_H) (iv : q_I) (cl sl : Nat) : q_O :=
  (q_pop st).bind fun p => bif q_is2 p.1.1 then none else q_nx nx lo p.2 hp iv cl sl
noncomputable def q_oDup2 (nx : Nat) (lo : q_L) (st : List q_V) (hp : q_H) (iv : q_I) (cl sl : Nat) : q_O :=
  (q_pop st).bind fun p => bif q_is2 p.1.1 then q_nx nx lo (p.1 :: p.1 :: p.2) hp iv cl sl else (q_pop p.2).bind fun r => bif q_is2 r.1.1 then none else q_nx nx lo (p.1 :: r.1 :: p.1 :: r.1 :: r.2) hp iv cl sl
noncomputable def q_oInc (x : Nat) (n : Int) (nx : Nat) (lo : q_L) (st : List q_V) (hp : q_H) (iv : q_I) (cl sl : Nat) : q_O :=
  (q_lk x lo).bind fun a => q_if (Nat.beq (q_conc iv a).1 0) (q_if (Nat.ble (q_len (q_sto x false (0, q_w32 (Int.add (q_conc iv a).2 n)) lo)) 32) (q_nx nx (q_sto x false (0, q_w32 (Int.add (q_conc iv a).2 n)) lo) st hp iv cl sl))
/-- the arguments of a call, the first one first, and the rest of the stack -/
noncomputable def q_take (n : Nat) (st : List q_V) : Option (List q_V × List q_V) := Nat.rec (motive := fun _ => List q_V → List q_V → Option (List q_V × List q_V)) (fun acc r => some (acc, r)) (fun _ ih acc r => (q_pop r).bind fun p => ih (p.1 :: acc) p.2) n [] st
noncomputable def q_wid : List q_V → Nat := fun l => List.rec (motive := fun _ => Nat) 0 (fun h _ ih => bif q_is2 h.1 then Nat.succ (Nat.succ ih) else Nat.succ ih) l
noncomputable def q_hd (hh : List (Nat × Nat × Nat × Nat)) (pc E : Nat) : Option Nat := List.rec (motive := fun _ => Option Nat) none (fun h _ ih => bif (bif Nat.ble h.1 pc then (bif Nat.ble (Nat.succ pc) h.2.1 then Nat.beq h.2.2.2 E else false) else false) then some h.2.2.1 else ih) hh
noncomputable def q_cont (hh : List (Nat × Nat × Nat × Nat)) (pc : Nat) (lo : q_L) (rest : List q_V) (cl sl : Nat) (lf : q_Lf) : List q_C × List q_Lf :=
  bif Nat.beq lf.1 0 then ([(Nat.add pc 3, lo, rest, lf.2.2.1, lf.2.2.2, cl, sl)], [])
  else bif Nat.beq lf.1 1 then ([(Nat.add pc 3, lo, q_conc lf.2.2.2 lf.2.1 :: rest, lf.2.2.1, lf.2.2.2, cl, sl)], [])
  else match q_hd hh pc (Nat.sub lf.1 2) with
    | some h => ([(h, lo, [(10, 0)], lf.2.2.1, lf.2.2.2, cl, sl)], [])
    | none => ([], [lf])
noncomputable def q_conts (hh : List (Nat × Nat × Nat × Nat)) (pc : Nat) (lo : q_L) (rest : List q_V) (cl sl : Nat) (l : List q_Lf) : List q_C × List q_Lf :=
  List.rec (motive := fun _ => List q_C × List q_Lf) ([], []) (fun h _ ih => (q_app (q_cont hh pc lo rest cl sl h).1 ih.1, q_app (q_cont hh pc lo rest cl sl h).2 ih.2)) l
/-- y: 0 a method of the receiver's class, 1 static, 2 a constructor, 3 static of the nest, 4 a constructor of the nest, 9 static with handlers -/
noncomputable def q_oCall (cf : Nat → List q_V → q_H → q_I → Option (List q_Lf)) (mi me : q_MI) (x y : Nat) (pc : Nat) (lo : q_L) (st : List q_V) (hp : q_H) (iv : q_I) (cl sl : Nat) : q_O :=
  (q_take me.2.1.2.2.1 st).bind fun ar => q_if (bif Nat.ble (q_wid ar.2) 8 then (bif Nat.ble (Nat.succ me.2.2.1.1) mi.2.2.1.1 then (bif Nat.ble (Nat.add (Nat.add me.2.1.1 19) me.2.2.1.2.1) mi.2.2.1.2.1 then (bif Nat.ble (Nat.add cl me.2.2.1.2.2.1) mi.2.2.1.2.2.1 then Nat.ble (Nat.add sl me.2.2.1.2.2.2) mi.2.2.1.2.2.2 else false) else false) else false) else false)
    (q_if (bif (bif Nat.beq y 0 then true else bif Nat.beq y 2 then true else Nat.beq y 4) then (match ar.1 with
        | [] => false
        | a :: _ => match q_at hp a with
          | none => false
          | some e => bif Nat.beq e.1 0 then Nat.beq e.2.1 me.2.1.2.1 else false) else true)
      ((cf x ar.1 hp iv).bind fun l => some (q_conts mi.2.2.2 pc lo ar.2 (Nat.add cl me.2.2.1.2.2.1) (Nat.add sl me.2.2.1.2.2.2) l)))
noncomputable def q_oObj (fr lc : Nat) (nx : Nat) (lo : q_L) (st : List q_V) (hp : q_H) (iv : q_I) (cl sl : Nat) : q_O :=
  (q_pop st).bind fun p => q_if (bif Nat.beq p.1.1 2 then (bif Nat.ble 1 fr then Nat.ble (Nat.add (q_wid p.2) 12) lc else false) else false) (q_nx nx lo p.2 hp iv cl sl)
noncomputable def q_oM2 (mx : Bool) (fr lc mc ms : Nat) (nx : Nat) (lo : q_L) (st : List q_V) (hp : q_H) (iv : q_I) (cl sl : Nat) : q_O :=
  (q_pop st).bind fun p => (q_pop p.2).bind fun r => q_if (bif Nat.beq p.1.1 0 then (bif Nat.beq r.1.1 0 then (bif Nat.ble 1 fr then (bif Nat.ble (Nat.add (q_wid r.2) 13) lc then (bif Nat.ble cl mc then Nat.ble sl ms else false) else false) else false) else false) else false)
    (q_nx nx lo ((bif q_ile (q_w32 r.1.2) (q_w32 p.1.2) then (bif mx then p.1 else r.1) else (bif mx then r.1 else p.1)) :: r.2) hp iv cl sl)
noncomputable def q_ret (k : Nat) (P : Nat → Bool) (b : Bool) (mi : q_MI) (st : List q_V) (hp : q_H) (iv : q_I) (cl sl : Nat) : q_O :=
  (q_pop st).bind fun p => q_if (bif Nat.beq mi.2.1.2.2.2 k then (bif P p.1.1 then (bif Nat.ble cl mi.2.2.1.2.2.1 then (bif Nat.ble sl mi.2.2.1.2.2.2 then (bif b then (bif q_ieq p.1.2 0 then true else q_ieq p.1.2 1) else true) else false) else false) else false) else false) (some ([], [(1, p.1, hp, iv)]))
noncomputable def q_ret0 (mi : q_MI) (hp : q_H) (iv : q_I) (cl sl : Nat) : q_O :=
  q_if (bif Nat.beq mi.2.1.2.2.2 0 then (bif Nat.ble cl mi.2.2.1.2.2.1 then Nat.ble sl mi.2.2.1.2.2.2 else false) else false) (some ([], [(0, q_z0, hp, iv)]))
noncomputable def q_oThr (E : Nat) (mi : q_MI) (st : List q_V) (hp : q_H) (iv : q_I) (cl sl : Nat) : q_O :=
  q_if (bif Nat.ble 6 mi.2.2.1.1 then (bif Nat.ble (Nat.add (q_wid st) 82) mi.2.2.1.2.1 then (bif Nat.ble (Nat.succ cl) mi.2.2.1.2.2.1 then (bif Nat.ble (Nat.add sl 6) mi.2.2.1.2.2.2 then (match mi.2.2.2 with
    | [] => true
    | _ :: _ => false) else false) else false) else false) else false) (some ([], [(Nat.add E 2, q_z0, hp, iv)]))
noncomputable def q_one (v : q_V) (nx : Nat) (lo : q_L) (st : List q_V) (hp : q_H) (iv : q_I) (cl sl : Nat) : q_O := q_nx nx lo (v :: st) hp iv cl sl
/-- one instruction -/
noncomputable def q_step (mt : Nat → q_MI) (df : Nat → List q_V) (cf : Nat → List q_V → q_H → q_I → Option (List q_Lf)) (sL : Nat) (mi : q_MI) (c : q_C) : q_O :=
  match c with
  | (pc, lo, st, hp, iv, cl, sl) => match mi.1 pc with
    | (ins, len, x, y, v) => match ins with
      | .aload_n _ => q_oLoad q_isR x (Nat.add pc len) lo st hp iv cl sl
      | .aload _ => q_oLoad q_isR x (Nat.add pc len) lo st hp iv cl sl
      | .iload_n _ => q_oLoad q_isI x (Nat.add pc len) lo st hp iv cl sl
      | .iload _ => q_oLoad q_isI x (Nat.add pc len) lo st hp iv cl sl
      | .lload_n _ => q_oLoad q_isJ x (Nat.add pc len) lo st hp iv cl sl
      | .lload _ => q_oLoad q_isJ x (Nat.add pc len) lo st hp iv cl sl
      | .fload_n _ => q_oLoad (Nat.beq 4) x (Nat.add pc len) lo st hp iv cl sl
      | .fload _ => q_oLoad (Nat.beq 4) x (Nat.add pc len) lo st hp iv cl sl
      | .dload_n _ => q_oLoad (Nat.beq 5) x (Nat.add pc len) lo st hp iv cl sl
      | .dload _ => q_oLoad (Nat.beq 5) x (Nat.add pc len) lo st hp iv cl sl
      | .astore_n _ => q_oStore q_isR false x (Nat.add pc len) lo st hp iv cl sl
      | .astore _ => q_oStore q_isR false x (Nat.add pc len) lo st hp iv cl sl
      | .istore_n _ => q_oStore q_isI false x (Nat.add pc len) lo st hp iv cl sl
      | .istore _ => q_oStore q_isI false x (Nat.add pc len) lo st hp iv cl sl
      | .lstore_n _ => q_oStore q_isJ true x (Nat.add pc len) lo st hp iv cl sl
      | .lstore _ => q_oStore q_isJ true x (Nat.add pc len) lo st hp iv cl sl
      | .fstore_n _ => q_oStore (Nat.beq 4) false x (Nat.add pc len) lo st hp iv cl sl
      | .fstore _ => q_oStore (Nat.beq 4) false x (Nat.add pc len) lo st hp iv cl sl
      | .dstore_n _ => q_oStore (Nat.beq 5) true x (Nat.add pc len) lo st hp iv cl sl
      | .dstore _ => q_oStore (Nat.beq 5) true x (Nat.add pc len) lo st hp iv cl sl
      | .iconst n => q_one (0, n) (Nat.add pc len) lo st hp iv cl sl
      | .bipush n => q_one (0, n) (Nat.add pc len) lo st hp iv cl sl
      | .sipush n => q_one (0, n) (Nat.add pc len) lo st hp iv cl sl
      | .lconst _ => q_one (1, v) (Nat.add pc len) lo st hp iv cl sl
      | .fconst _ => q_one (4, v) (Nat.add pc len) lo st hp iv cl sl
      | .dconst _ => q_one (5, v) (Nat.add pc len) lo st hp iv cl sl
      | .ldc _ => q_one (0, v) (Nat.add pc len) lo st hp iv cl sl
      | .ldc2_w _ => q_one (1, v) (Nat.add pc len) lo st hp iv cl sl
      | .aconst_null => q_one (3, 0) (Nat.add pc len) lo st hp iv cl sl
      | .dup => q_oDup (Nat.add pc len) lo st hp iv cl sl
      | .dup2 => q_oDup2 (Nat.add pc len) lo st hp iv cl sl
      | .pop => q_oPop (Nat.add pc len) lo st hp iv cl sl
      | .iadd => q_oBin 0 (fun a b => q_w32 (Int.add a b)) (Nat.add pc len) lo st hp iv cl sl
      | .isub => q_oBin 0 (fun a b => q_w32 (Int.sub a b)) (Nat.add pc len) lo st hp iv cl sl
      | .imul => q_oBin 0 (fun a b => q_w32 (Int.mul a b)) (Nat.add pc len) lo st hp iv cl sl
      | .idiv => q_oDiv 0 (fun a b => (Int32.ofInt a / Int32.ofInt b).toInt) q_w32 (Nat.add pc len) lo st hp iv cl sl
      | .irem => q_oDiv 0 (fun a b => (Int32.ofInt a - Int32.ofInt a / Int32.ofInt b * Int32.ofInt b).toInt) q_w32 (Nat.add pc len) lo st hp iv cl sl
      | .iand => q_oAnd (Nat.add pc len) lo st hp iv cl sl
      | .ior => q_oAny (fun a b => (Int32.ofInt a ||| Int32.ofInt b).toInt) (Nat.add pc len) lo st hp iv cl sl
      | .ishl => q_oAny (fun a b => (Int32.ofInt a <<< (Int32.ofInt b &&& 31)).toInt) (Nat.add pc len) lo st hp iv cl sl
      | .ishr => q_oAny (fun a b => (Int32.ofInt a >>> (Int32.ofInt b &&& 31)).toInt) (Nat.add pc len) lo st hp iv cl sl
      | .iushr => q_oAny (fun a b => ((Int32.ofInt a).toUInt32 >>> ((Int32.ofInt b).toUInt32 &&& Int32.toUInt32 31)).toInt32.toInt) (Nat.add pc len) lo st hp iv cl sl
      | .ineg => q_oUn 0 0 (fun a => (-(Int32.ofInt a)).toInt) (Nat.add pc len) lo st hp iv cl sl
      | .ladd => q_oBin 1 (fun a b => q_w64 (Int.add a b)) (Nat.add pc len) lo st hp iv cl sl
      | .lsub => q_oBin 1 (fun a b => q_w64 (Int.sub a b)) (Nat.add pc len) lo st hp iv cl sl
      | .lmul => q_oBin 1 (fun a b => q_w64 (Int.mul a b)) (Nat.add pc len) lo st hp iv cl sl
      | .ldiv => q_oDiv 1 (fun a b => (Int64.ofInt a / Int64.ofInt b).toInt) q_w64 (Nat.add pc len) lo st hp iv cl sl
      | .lcmp => q_oLcmp (Nat.add pc len) lo st hp iv cl sl
      | .i2l => q_oI2l (Nat.add pc len) lo st hp iv cl sl
      | .l2i => q_oL2i (Nat.add pc len) lo st hp iv cl sl
      | .i2b => q_oI2b (Nat.add pc len) lo st hp iv cl sl
      | .f2d => (q_pop st).bind fun p => q_if (bif Nat.beq p.1.1 4 then q_ieq p.1.2 0 else false) (q_nx (Nat.add pc len) lo ((5, 0) :: p.2) hp iv cl sl)
      | .dcmp _ => (q_pop st).bind fun p => (q_pop p.2).bind fun r => q_if (bif Nat.beq p.1.1 5 then (bif Nat.beq r.1.1 5 then (bif q_ieq p.1.2 0 then q_ieq r.1.2 0 else false) else false) else false) (q_nx (Nat.add pc len) lo ((0, 0) :: r.2) hp iv cl sl)
      | .goto _ => q_nx x lo st hp iv cl sl
      | .ifCond c _ => q_oIf c x (Nat.add pc len) lo st hp iv cl sl
      | .if_icmp c _ => q_oIc c x (Nat.add pc len) lo st hp iv cl sl
      | .ifnull _ => q_oIfn x (Nat.add pc len) lo st hp iv cl sl
      | .tableswitch d l h o => q_oSw d l h o pc lo st hp iv cl sl
      | .iinc _ n => q_oInc x n (Nat.add pc len) lo st hp iv cl sl
      | .getfield _ => q_oGet x y (Nat.add pc len) lo st hp iv cl sl
      | .putfield _ => q_oPut x y v.toNat (Nat.add pc len) lo st hp iv cl sl
      | .arraylength => q_oLen sL (Nat.add pc len) lo st hp iv cl sl
      | .iaload => q_oAld 1 sL (Nat.add pc len) lo st hp iv cl sl
      | .laload => q_oAld 3 sL (Nat.add pc len) lo st hp iv cl sl
      | .daload => q_oAld 4 sL (Nat.add pc len) lo st hp iv cl sl
      | .aaload => q_oAld 5 sL (Nat.add pc len) lo st hp iv cl sl
      | .iastore => q_oAst 1 (Nat.add pc len) lo st hp iv cl sl
      | .bastore => q_oAst 2 (Nat.add pc len) lo st hp iv cl sl
      | .lastore => q_oAst 3 (Nat.add pc len) lo st hp iv cl sl
      | .dastore => q_oAst 4 (Nat.add pc len) lo st hp iv cl sl
      | .aastore => q_oAsr 6 (Nat.add pc len) lo st hp iv cl sl
      | .new _ => bif Nat.beq y 0 then q_oNew x (df x) mi.2.2.1.2.2.1 mi.2.2.1.2.2.2 (Nat.add pc len) lo st hp iv cl sl else q_oThr x mi st hp iv cl sl
      | .newarray _ => q_oNwa x (y, 0) mi.2.2.1.2.2.1 mi.2.2.1.2.2.2 (Nat.add pc len) lo st hp iv cl sl
      | .anewarray _ => q_oNwa 5 (3, 0) mi.2.2.1.2.2.1 mi.2.2.1.2.2.2 (Nat.add pc len) lo st hp iv cl sl
      | .invokevirtual _ => q_oCall cf mi (mt x) x y pc lo st hp iv cl sl
      | .invokestatic _ => bif Nat.beq y 6 then q_oM2 true mi.2.2.1.1 mi.2.2.1.2.1 mi.2.2.1.2.2.1 mi.2.2.1.2.2.2 (Nat.add pc len) lo st hp iv cl sl else bif Nat.beq y 7 then q_oM2 false mi.2.2.1.1 mi.2.2.1.2.1 mi.2.2.1.2.2.1 mi.2.2.1.2.2.2 (Nat.add pc len) lo st hp iv cl sl else q_oCall cf mi (mt x) x y pc lo st hp iv cl sl
      | .invokespecial _ => bif Nat.beq y 5 then q_oObj mi.2.2.1.1 mi.2.2.1.2.1 (Nat.add pc len) lo st hp iv cl sl else q_oCall cf mi (mt x) x y pc lo st hp iv cl sl
      | .ireturn => bif Nat.beq mi.2.1.2.2.2 1 then q_ret 1 q_isI false mi st hp iv cl sl else q_ret 2 (Nat.beq 0) true mi st hp iv cl sl
      | .lreturn => q_ret 3 q_isJ false mi st hp iv cl sl
      | .freturn => q_ret 4 (Nat.beq 4) false mi st hp iv cl sl
      | .dreturn => q_ret 5 (Nat.beq 5) false mi st hp iv cl sl
      | .areturn => q_ret 6 (fun t => bif Nat.beq t 2 then true else Nat.beq t 3) false mi st hp iv cl sl
      | .return_ => q_ret0 mi hp iv cl sl
      | _ => none
/-- one instruction of the first of the runs under way -/
noncomputable def q_one1 (mt : Nat → q_MI) (df : Nat → List q_V) (cf : Nat → List q_V → q_H → q_I → Option (List q_Lf)) (sL : Nat) (mi : q_MI) (s : List q_C × List q_Lf) : Option (List q_C × List q_Lf) := match s with
  | ([], lf) => some ([], lf)
  | (c :: r, lf) => match q_step mt df cf sL mi c with
    | none => none
    | some z => some (q_app z.1 r, q_app z.2 lf)
/-- 2^k instructions -/
noncomputable def q_it (mt : Nat → q_MI) (df : Nat → List q_V) (cf : Nat → List q_V → q_H → q_I → Option (List q_Lf)) (sL : Nat) (mi : q_MI) (k : Nat) : List q_C × List q_Lf → Option (List q_C × List q_Lf) :=
  Nat.rec (motive := fun _ => List q_C × List q_Lf → Option (List q_C × List q_Lf)) (fun s => q_one1 mt df cf sL mi s) (fun _ ih s => match ih s with
    | none => none
    | some z => match z with
      | ([], lf) => some ([], lf)
      | (c :: r, lf) => ih (c :: r, lf)) k
noncomputable def q_args : List q_V → Nat → q_L := fun l => List.rec (motive := fun _ => Nat → q_L) (fun _ => []) (fun h _ ih n => (n, h) :: ih (bif q_is2 h.1 then Nat.succ (Nat.succ n) else Nat.succ n)) l
/-- a method's run: how it can end -/
noncomputable def q_run (mt : Nat → q_MI) (df : Nat → List q_V) (sL : Nat) (d : Nat) : Nat → List q_V → q_H → q_I → Option (List q_Lf) :=
  Nat.rec (motive := fun _ => Nat → List q_V → q_H → q_I → Option (List q_Lf)) (fun _ _ _ _ => none) (fun _ ih i ar hp iv => match q_it mt df ih sL (mt i) 14 ([(0, q_args ar 0, [], hp, iv, 0, 0)], []) with
    | none => none
    | some z => match z with
      | ([], lf) => some lf
      | (_ :: _, _) => none) d
end
section
/-! Part 06: what a state of the pure machine says of the machine. -/
def q_F2 {α β : Type} (R : α → β → Prop) : List α → List β → Prop
  | [], [] => True
  | a :: l, b :: r => R a b ∧ q_F2 R l r
  | _, _ => False
def q_rv (ρ : Nat → Int) (bs : Nat) (ws : va_W) (v : q_V) (V : Value) : Prop :=
  match v.1 with
  | 0 => V = .int (Int32.ofInt v.2)
  | 1 => V = .long (Int64.ofInt v.2)
  | 2 => ∃ q, ws[v.2.toNat]? = some q ∧ V = .ref q.1
  | 3 => V = .null
  | 4 => V = .float (UInt32.ofNat v.2.toNat)
  | 5 => V = .double (UInt64.ofNat v.2.toNat)
  | 6 => V = .int (Int32.ofInt (ρ v.2.toNat))
  | 7 => V = .long (Int64.ofInt (ρ v.2.toNat))
  | 8 => ∃ x, V = .int x
  | 9 => V = .ref bs
  | 10 => ∃ a, V = .ref a
  | _ => False
def q_rl (ρ : Nat → Int) (bs : Nat) (ws : va_W) (x : Nat × q_V) (y : Nat × Value) : Prop := x.1 = y.1 ∧ q_rv ρ bs ws x.2 y.2
def q_Ex (ws ws' : va_W) : Prop := ∀ (k : Nat) (q : Nat × va_E), ws[k]? = some q → ∃ q' : Nat × va_E, ws'[k]? = some q' ∧ q'.1 = q.1
def q_Et (tys tys' : List (ClassId × FieldType)) : Prop := ∀ (t : Nat) (x : ClassId × FieldType), tys[t]? = some x → tys'[t]? = some x
def q_tbl : String := "StepperTable$Table"
def q_rc (ρ : Nat → Int) (bs : Nat) (ws : va_W) (tys : List (ClassId × FieldType)) (c : q_Ce) (e : va_E) : Prop :=
  match c.1 with
  | 0 => ∃ fs, e = .inr (c.2.1, fs) ∧ q_F2 (q_rv ρ bs ws) c.2.2.1 fs
  | 1 => c.2.1 ≤ 2000 ∧ ∃ (cA : ClassId) (t : Nat) (f : Nat → Int32), e = .inl (cA, c.2.1, .inl f) ∧ tys[t]? = some (cA, .int) ∧ ∀ j, j < c.2.1 → q_rv ρ bs ws (q_get 11 c.2.2.2 j) (.int (f j))
  | 2 => c.2.1 ≤ 2000 ∧ ∃ (cA : ClassId) (t : Nat) (f : Nat → Int32), e = .inl (cA, c.2.1, .inl f) ∧ tys[t]? = some (cA, .byte) ∧ ∀ j, j < c.2.1 → q_rv ρ bs ws (q_get 11 c.2.2.2 j) (.int (f j))
  | 3 => c.2.1 ≤ 2000 ∧ ∃ (cA : ClassId) (t : Nat) (f : Nat → Int64), e = .inl (cA, c.2.1, .inr (.inl f)) ∧ tys[t]? = some (cA, .long) ∧ ∀ j, j < c.2.1 → q_rv ρ bs ws (q_get 11 c.2.2.2 j) (.long (f j))
  | 4 => c.2.1 ≤ 2000 ∧ ∃ (cA : ClassId) (t : Nat) (f : Nat → UInt64), e = .inl (cA, c.2.1, .inr (.inr (.inr (.inl f)))) ∧ tys[t]? = some (cA, .double) ∧ ∀ j, j < c.2.1 → q_rv ρ bs ws (q_get 11 c.2.2.2 j) (.double (f j))
  | 5 => c.2.1 ≤ 2000 ∧ ∃ (cA : ClassId) (t : Nat) (f : Nat → Option Nat), e = .inl (cA, c.2.1, .inr (.inr (.inr (.inr f)))) ∧ tys[t]? = some (cA, .object q_tbl) ∧ ∀ j, j < c.2.1 → q_rv ρ bs ws (q_get 11 c.2.2.2 j) (va_rf (f j))
  | _ => False
def q_W (ρ : Nat → Int) (bs : Nat) (ws : va_W) (tys : List (ClassId × FieldType)) (hp : q_H) : Prop := ws.length = hp.1 ∧ hp.1 ≤ 256 ∧ ∀ (k : Nat) (q : Nat × va_E), ws[k]? = some q → q_rc ρ bs ws tys (q_get 8 hp.2 k) q.2
def q_ok (ρ : Nat → Int) (iv : q_I) : Prop := ∀ i p, q_nth iv i = some p → p.1 ≤ ρ i ∧ ρ i ≤ p.2
def q_rg (ρ : Nat → Int) : Prop := ∀ i, -2147483648 ≤ ρ i ∧ ρ i < 2147483648
-- small inversions
theorem q_if_i {α : Type} {b : Bool} {k : Option α} {z : α} (h : q_if b k = some z) : b = true ∧ k = some z := by
  cases b
  · exact absurd h (by show ¬ (none : Option α) = some z; intro h; cases h)
  · exact ⟨rfl, h⟩
theorem q_and_i {a b : Bool} (h : (bif a then b else false) = true) : a = true ∧ b = true := by
  cases a
  · cases h
  · exact ⟨rfl, h⟩
theorem q_or_i {a b : Bool} (h : (bif a then true else b) = true) : a = true ∨ b = true := by
  cases a
  · exact Or.inr h
  · exact Or.inl rfl
theorem q_not_i {a : Bool} (h : (bif a then false else true) = true) : a = false := by
  cases a
  · rfl
  · cases h
theorem q_bq {a b : Nat} (h : Nat.beq a b = true) : a = b := Nat.eq_of_beq_eq_true h
theorem q_bl {a b : Nat} (h : Nat.ble a b = true) : a ≤ b := Nat.le_of_ble_eq_true h
theorem q_bd_i {α β : Type} {o : Option α} {f : α → Option β} {z : β} (h : o.bind f = some z) : ∃ a, o = some a ∧ f a = some z := Option.bind_eq_some_iff.mp h
theorem q_pop_i {α : Type} {st : List α} {p : α × List α} (h : q_pop st = some p) : st = p.1 :: p.2 := by
  cases st with
  | nil => cases h
  | cons a r => cases h; rfl
theorem q_so {α : Type} {a b : α} (h : some a = some b) : a = b := Option.some.inj h
theorem q_ieq_i {a b : Int} (h : q_ieq a b = true) : a = b := by
  rcases q_cmp_s a b with ⟨e, h1⟩ | ⟨e, h1⟩ | ⟨e, h1⟩
  · unfold q_ieq at h; rw [e] at h; cases h
  · exact h1
  · unfold q_ieq at h; rw [e] at h; cases h
theorem q_ieq_n {a b : Int} (h : q_ieq a b = false) : a ≠ b := by
  rcases q_cmp_s a b with ⟨e, h1⟩ | ⟨e, h1⟩ | ⟨e, h1⟩
  · omega
  · unfold q_ieq at h; rw [e] at h; cases h
  · omega
theorem q_ile_i {a b : Int} (h : q_ile a b = true) : a ≤ b := by
  rcases q_cmp_s a b with ⟨e, h1⟩ | ⟨e, h1⟩ | ⟨e, h1⟩
  · omega
  · omega
  · unfold q_ile at h; rw [e] at h; cases h
theorem q_ile_n {a b : Int} (h : q_ile a b = false) : b < a := by
  rcases q_cmp_s a b with ⟨e, h1⟩ | ⟨e, h1⟩ | ⟨e, h1⟩
  · unfold q_ile at h; rw [e] at h; cases h
  · unfold q_ile at h; rw [e] at h; cases h
  · exact h1
-- lists
theorem q_nth_g {α : Type} : ∀ (l : List α) (n : Nat), q_nth l n = l[n]?
  | [], n => by cases n <;> rfl
  | a :: l, 0 => rfl
  | a :: l, n + 1 => by
    show q_nth l n = _
    rw [q_nth_g l n]; rfl
theorem q_up_g {α : Type} : ∀ (l : List α) (n : Nat) (v : α), q_up l n v = l.set n v
  | [], n, v => by cases n <;> rfl
  | a :: l, 0, v => rfl
  | a :: l, n + 1, v => by
    show a :: q_up l n v = _
    rw [q_up_g l n v]; rfl
theorem q_len_g {α : Type} : ∀ (l : List α), q_len l = l.length
  | [] => rfl
  | a :: l => by show Nat.succ (q_len l) = _; rw [q_len_g l]; rfl
theorem q_app_g {α : Type} : ∀ (l m : List α), q_app l m = l ++ m
  | [], m => rfl
  | a :: l, m => by show a :: q_app l m = _; rw [q_app_g l m]; rfl
theorem q_map_g {α β : Type} (f : α → β) : ∀ (l : List α), q_map f l = l.map f
  | [] => rfl
  | a :: l => by show f a :: q_map f l = _; rw [q_map_g f l]; rfl
theorem q_all_i {α β : Type} {f : α → Option β} : ∀ {l : List α} {bs : List β}, q_all f l = some bs → ∀ a ∈ l, ∃ b ∈ bs, f a = some b
  | [], bs, h, a, ha => by cases ha
  | x :: l, bs, h, a, ha => by
    obtain ⟨b, h1, h2⟩ := q_bd_i (show (f x).bind _ = some bs from h)
    obtain ⟨bs', h3, h4⟩ := q_bd_i h2
    cases q_so h4
    rcases List.mem_cons.mp ha with e | ha
    · subst e; exact ⟨b, List.mem_cons_self, h1⟩
    · obtain ⟨b', h5, h6⟩ := q_all_i (f := f) h3 a ha
      exact ⟨b', List.mem_cons_of_mem _ h5, h6⟩
theorem q_cat_m {α : Type} : ∀ {bs : List (List α)} {b : List α}, b ∈ bs → ∀ x ∈ b, x ∈ (List.rec (motive := fun _ => List α) [] (fun h _ ih => q_app h ih) bs : List α)
  | [], b, h, x, hx => by cases h
  | y :: bs, b, h, x, hx => by
    show x ∈ q_app y _
    rw [q_app_g]
    rcases List.mem_cons.mp h with e | h
    · subst e; exact List.mem_append_left _ hx
    · exact List.mem_append_right _ (q_cat_m h x hx)
theorem q_F2_c {α β : Type} {R : α → β → Prop} {a : α} {l : List α} {m : List β} (h : q_F2 R (a :: l) m) : ∃ b r, m = b :: r ∧ R a b ∧ q_F2 R l r := by
  cases m with
  | nil => exact absurd h id
  | cons b r => exact ⟨b, r, rfl, h.1, h.2⟩
theorem q_F2_n {α β : Type} {R : α → β → Prop} {m : List β} (h : q_F2 R [] m) : m = [] := by
  cases m with
  | nil => rfl
  | cons b r => exact absurd h id
theorem q_F2_m {α β : Type} {R S : α → β → Prop} (hRS : ∀ a b, R a b → S a b) : ∀ {l : List α} {m : List β}, q_F2 R l m → q_F2 S l m
  | [], m, h => by rw [q_F2_n h]; trivial
  | a :: l, m, h => by
    obtain ⟨b, r, rfl, h1, h2⟩ := q_F2_c h
    exact ⟨hRS a b h1, q_F2_m hRS h2⟩
theorem q_F2_l {α β : Type} {R : α → β → Prop} : ∀ {l : List α} {m : List β}, q_F2 R l m → l.length = m.length
  | [], m, h => by rw [q_F2_n h]; rfl
  | a :: l, m, h => by
    obtain ⟨b, r, rfl, h1, h2⟩ := q_F2_c h
    show _ + 1 = _ + 1
    rw [q_F2_l h2]
theorem q_F2_g {α β : Type} {R : α → β → Prop} : ∀ {l : List α} {m : List β}, q_F2 R l m → ∀ (n : Nat) (a : α), l[n]? = some a → ∃ b, m[n]? = some b ∧ R a b
  | [], m, h, n, a, ha => by simp at ha
  | x :: l, m, h, n, a, ha => by
    obtain ⟨b, r, rfl, h1, h2⟩ := q_F2_c h
    cases n with
    | zero => cases ha; exact ⟨b, rfl, h1⟩
    | succ n => exact q_F2_g h2 n a ha
theorem q_F2_s {α β : Type} {R : α → β → Prop} : ∀ {l : List α} {m : List β}, q_F2 R l m → ∀ (n : Nat) (a : α) (b : β), R a b → q_F2 R (l.set n a) (m.set n b)
  | [], m, h, n, a, b, hab => by rw [q_F2_n h]; trivial
  | x :: l, m, h, n, a, b, hab => by
    obtain ⟨y, r, rfl, h1, h2⟩ := q_F2_c h
    cases n with
    | zero => exact ⟨hab, h2⟩
    | succ n => exact ⟨h1, q_F2_s h2 n a b hab⟩
theorem q_F2_a {α β : Type} {R : α → β → Prop} : ∀ {l l2 : List α} {m m2 : List β}, q_F2 R l m → q_F2 R l2 m2 → q_F2 R (l ++ l2) (m ++ m2)
  | [], l2, m, m2, h, h2 => by rw [q_F2_n h]; exact h2
  | x :: l, l2, m, m2, h, h2 => by
    obtain ⟨y, r, rfl, h1, h3⟩ := q_F2_c h
    exact ⟨h1, q_F2_a h3 h2⟩
-- values
theorem q_Ex.rf (ws : va_W) : q_Ex ws ws := fun k q h => ⟨q, h, rfl⟩
theorem q_Ex.tr {a b c : va_W} (h1 : q_Ex a b) (h2 : q_Ex b c) : q_Ex a c := fun k q h => by
  obtain ⟨q1, h3, h4⟩ := h1 k q h
  obtain ⟨q2, h5, h6⟩ := h2 k q1 h3
  exact ⟨q2, h5, h6.trans h4⟩
theorem q_Ex.st {ws : va_W} {k a : Nat} {e0 e : va_E} (h : ws[k]? = some (a, e0)) : q_Ex ws (ws.set k (a, e)) := by
  intro j q hq
  by_cases hj : j = k
  · subst hj
    have hl := (List.getElem?_eq_some_iff.mp h).1
    rw [h] at hq; cases hq
    exact ⟨(a, e), by rw [List.getElem?_set_self hl], rfl⟩
  · exact ⟨q, by rw [List.getElem?_set_ne (Ne.symm hj)]; exact hq, rfl⟩
theorem q_Ex.pu (ws : va_W) (x : Nat × va_E) : q_Ex ws (ws ++ [x]) := by
  intro j q hq
  have hl := (List.getElem?_eq_some_iff.mp hq).1
  exact ⟨q, by rw [List.getElem?_append_left hl]; exact hq, rfl⟩
theorem q_rv.ex {ρ : Nat → Int} {bs : Nat} {ws ws' : va_W} (h : q_Ex ws ws') {v : q_V} {V : Value} (hv : q_rv ρ bs ws v V) : q_rv ρ bs ws' v V := by
  obtain ⟨t, z⟩ := v
  match t, hv with
  | 0, hv => exact hv
  | 1, hv => exact hv
  | 2, hv =>
    obtain ⟨q, h1, h2⟩ := hv
    obtain ⟨q', h3, h4⟩ := h _ q h1
    exact ⟨q', h3, by rw [h4]; exact h2⟩
  | 3, hv => exact hv
  | 4, hv => exact hv
  | 5, hv => exact hv
  | 6, hv => exact hv
  | 7, hv => exact hv
  | 8, hv => exact hv
  | 9, hv => exact hv
  | 10, hv => exact hv
  | n + 11, hv => exact hv
theorem q_rc.ex {ρ : Nat → Int} {bs : Nat} {ws ws' : va_W} {tys tys' : List (ClassId × FieldType)} (h : q_Ex ws ws') (ht : q_Et tys tys') {c : q_Ce} {e : va_E} (hv : q_rc ρ bs ws tys c e) : q_rc ρ bs ws' tys' c e := by
  obtain ⟨k, n, fs, ar⟩ := c
  match k, hv with
  | 0, hv =>
    obtain ⟨fs', h1, h2⟩ := hv
    exact ⟨fs', h1, q_F2_m (fun _ _ h3 => h3.ex h) h2⟩
  | 1, hv =>
    obtain ⟨h0, cA, t, f, h1, h2, h3⟩ := hv
    exact ⟨h0, cA, t, f, h1, ht _ _ h2, fun j hj => (h3 j hj).ex h⟩
  | 2, hv =>
    obtain ⟨h0, cA, t, f, h1, h2, h3⟩ := hv
    exact ⟨h0, cA, t, f, h1, ht _ _ h2, fun j hj => (h3 j hj).ex h⟩
  | 3, hv =>
    obtain ⟨h0, cA, t, f, h1, h2, h3⟩ := hv
    exact ⟨h0, cA, t, f, h1, ht _ _ h2, fun j hj => (h3 j hj).ex h⟩
  | 4, hv =>
    obtain ⟨h0, cA, t, f, h1, h2, h3⟩ := hv
    exact ⟨h0, cA, t, f, h1, ht _ _ h2, fun j hj => (h3 j hj).ex h⟩
  | 5, hv =>
    obtain ⟨h0, cA, t, f, h1, h2, h3⟩ := hv
    exact ⟨h0, cA, t, f, h1, ht _ _ h2, fun j hj => (h3 j hj).ex h⟩
  | n + 6, hv => exact hv
theorem q_W.put {ρ : Nat → Int} {bs : Nat} {ws : va_W} {tys : List (ClassId × FieldType)} {hp : q_H} {k a : Nat} {e0 e : va_E} {c : q_Ce} (hW : q_W ρ bs ws tys hp) (hk : ws[k]? = some (a, e0)) (hc : q_rc ρ bs (ws.set k (a, e)) tys c e) : q_W ρ bs (ws.set k (a, e)) tys (q_put hp k c) := by
  obtain ⟨h1, h2, h3⟩ := hW
  have hl := (List.getElem?_eq_some_iff.mp hk).1
  refine ⟨by rw [List.length_set]; exact h1, h2, fun j q hq => ?_⟩
  have hjl : j < ws.length := by
    have := (List.getElem?_eq_some_iff.mp hq).1
    rwa [List.length_set] at this
  show q_rc ρ bs _ tys (q_get 8 (q_set 8 hp.2 k c) j) q.2
  rw [q_gs 8 hp.2 k j c (by omega) (by omega)]
  by_cases hj : j = k
  · subst hj
    rw [if_pos rfl]
    rw [List.getElem?_set_self hl] at hq
    cases hq
    exact hc
  · rw [if_neg hj]
    rw [List.getElem?_set_ne (Ne.symm hj)] at hq
    exact (h3 j q hq).ex (q_Ex.st hk) (fun _ _ h => h)
theorem q_W.new {ρ : Nat → Int} {bs : Nat} {ws : va_W} {tys tys' : List (ClassId × FieldType)} {hp : q_H} {a : Nat} {e : va_E} {c : q_Ce} (hW : q_W ρ bs ws tys hp) (hn : hp.1 + 1 ≤ 256) (ht : q_Et tys tys') (hc : q_rc ρ bs (ws ++ [(a, e)]) tys' c e) : q_W ρ bs (ws ++ [(a, e)]) tys' (q_new hp c) := by
  obtain ⟨h1, h2, h3⟩ := hW
  refine ⟨by rw [List.length_append, h1]; rfl, hn, fun j q hq => ?_⟩
  have hjl : j < ws.length + 1 := by
    have := (List.getElem?_eq_some_iff.mp hq).1
    rwa [List.length_append] at this
  show q_rc ρ bs _ tys' (q_get 8 (q_set 8 hp.2 hp.1 c) j) q.2
  rw [q_gs 8 hp.2 hp.1 j c (by omega) (by omega)]
  by_cases hj : j = hp.1
  · subst hj
    rw [if_pos rfl]
    rw [← h1, List.getElem?_append_right (Nat.le_refl _), Nat.sub_self] at hq
    cases hq
    exact hc
  · rw [if_neg hj]
    rw [List.getElem?_append_left (by omega)] at hq
    exact (h3 j q hq).ex (q_Ex.pu ws _) ht
/-- the cell of a reference -/
theorem q_at_i {ρ : Nat → Int} {bs : Nat} {ws : va_W} {tys : List (ClassId × FieldType)} {hp : q_H} {a : q_V} {c : q_Ce} {V : Value} (hW : q_W ρ bs ws tys hp) (h : q_at hp a = some c) (hv : q_rv ρ bs ws a V) : ∃ q e, ws[a.2.toNat]? = some (q, e) ∧ V = .ref q ∧ q_rc ρ bs ws tys c e := by
  obtain ⟨h1, h2⟩ := q_if_i h
  obtain ⟨h3, h4⟩ := q_and_i h1
  obtain ⟨t, z⟩ := a
  have e1 : t = 2 := q_bq h3
  subst e1
  obtain ⟨q, h5, h6⟩ := hv
  cases q_so h2
  exact ⟨q.1, q.2, h5, h6, hW.2.2 _ _ h5⟩
theorem q_isI_i {ρ : Nat → Int} {bs : Nat} {ws : va_W} {v : q_V} {V : Value} (h : q_isI v.1 = true) (hv : q_rv ρ bs ws v V) : ∃ x, V = .int x := by
  obtain ⟨t, z⟩ := v
  rcases q_or_i h with e | h
  · have e1 : t = 0 := q_bq e
    subst e1; exact ⟨_, hv⟩
  · rcases q_or_i h with e | e
    · have e1 : t = 6 := q_bq e
      subst e1; exact ⟨_, hv⟩
    · have e1 : t = 8 := q_bq e
      subst e1; exact hv
theorem q_isJ_i {ρ : Nat → Int} {bs : Nat} {ws : va_W} {v : q_V} {V : Value} (h : q_isJ v.1 = true) (hv : q_rv ρ bs ws v V) : ∃ x, V = .long x := by
  obtain ⟨t, z⟩ := v
  rcases q_or_i h with e | e
  · have e1 : t = 1 := q_bq e
    subst e1; exact ⟨_, hv⟩
  · have e1 : t = 7 := q_bq e
    subst e1; exact ⟨_, hv⟩
theorem q_isR_i {ρ : Nat → Int} {bs : Nat} {ws : va_W} {v : q_V} {V : Value} (h : q_isR v.1 = true) (hv : q_rv ρ bs ws v V) : ∃ x, V = .ref x := by
  obtain ⟨t, z⟩ := v
  rcases q_or_i h with e | h
  · have e1 : t = 2 := q_bq e
    subst e1
    obtain ⟨q, -, h2⟩ := hv
    exact ⟨_, h2⟩
  · rcases q_or_i h with e | e
    · have e1 : t = 9 := q_bq e
      subst e1; exact ⟨_, hv⟩
    · have e1 : t = 10 := q_bq e
      subst e1; exact hv
theorem q_is2_i {ρ : Nat → Int} {bs : Nat} {ws : va_W} {v : q_V} {V : Value} (hv : q_rv ρ bs ws v V) : V.category = bif q_is2 v.1 then 2 else 1 := by
  obtain ⟨t, z⟩ := v
  match t, hv with
  | 0, hv => rw [show V = _ from hv]; rfl
  | 1, hv => rw [show V = _ from hv]; rfl
  | 2, hv => obtain ⟨q, -, h2⟩ := hv; rw [h2]; rfl
  | 3, hv => rw [show V = _ from hv]; rfl
  | 4, hv => rw [show V = _ from hv]; rfl
  | 5, hv => rw [show V = _ from hv]; rfl
  | 6, hv => rw [show V = _ from hv]; rfl
  | 7, hv => rw [show V = _ from hv]; rfl
  | 8, hv => obtain ⟨q, h2⟩ := hv; rw [h2]; rfl
  | 9, hv => rw [show V = _ from hv]; rfl
  | 10, hv => obtain ⟨q, h2⟩ := hv; rw [h2]; rfl
  | n + 11, hv => exact absurd hv id
theorem q_conc_rv {ρ : Nat → Int} {bs : Nat} {ws : va_W} {iv : q_I} {v : q_V} {V : Value} (ho : q_ok ρ iv) (hv : q_rv ρ bs ws v V) : q_rv ρ bs ws (q_conc iv v) V := by
  obtain ⟨t, z⟩ := v
  unfold q_conc
  dsimp only
  cases h6 : Nat.ble 6 t with
  | false => exact hv
  | true =>
    cases h7 : Nat.ble t 7 with
    | false => exact hv
    | true =>
      simp only [cond_true]
      cases hn : q_nth iv z.toNat with
      | none => exact hv
      | some q =>
        dsimp only
        cases hq : q_ieq q.1 q.2 with
        | false => exact hv
        | true =>
          obtain ⟨g1, g2⟩ := ho _ _ hn
          have e := q_ieq_i hq
          have e2 : ρ z.toNat = q.1 := by omega
          have hl := q_bl h6
          have hr := q_bl h7
          simp only [cond_true]
          have ht : t = 6 ∨ t = 7 := by omega
          rcases ht with rfl | rfl
          · show V = .int (Int32.ofInt q.1)
            rw [show V = .int (Int32.ofInt (ρ z.toNat)) from hv, e2]
          · show V = .long (Int64.ofInt q.1)
            rw [show V = .long (Int64.ofInt (ρ z.toNat)) from hv, e2]
-- comparisons
noncomputable def q_nv (ρ : Nat → Int) (a : q_V) : Int := match a.1 with
  | 0 => q_w32 a.2
  | 1 => q_w64 a.2
  | _ => ρ a.2.toNat
theorem q_ok_up {ρ : Nat → Int} {iv : q_I} {i : Nat} {x y : Int} (ho : q_ok ρ iv) (h1 : x ≤ ρ i) (h2 : ρ i ≤ y) : q_ok ρ (q_up iv i (x, y)) := by
  intro j p hp
  rw [q_up_g, q_nth_g] at hp
  by_cases hj : i = j
  · subst hj
    have hl : i < iv.length := by
      have := (List.getElem?_eq_some_iff.mp hp).1
      rwa [List.length_set] at this
    rw [List.getElem?_set_self hl] at hp
    cases hp
    exact ⟨h1, h2⟩
  · rw [List.getElem?_set_ne hj] at hp
    exact ho j p (by rw [q_nth_g]; exact hp)
theorem q_split_s {ρ : Nat → Int} {iv : q_I} {i : Nat} {k : Int} {l : List (Nat × q_I)} (ho : q_ok ρ iv) (h : q_split iv i k = some l) :
    ∃ q ∈ l, q_ok ρ q.2 ∧ ((q.1 = 0 ∧ ρ i < k) ∨ (q.1 = 1 ∧ ρ i = k) ∨ (q.1 = 2 ∧ k < ρ i)) := by
  obtain ⟨p, hp, h⟩ := q_bd_i h
  obtain ⟨g1, g2⟩ := ho _ _ hp
  cases q_so h
  rw [q_app_g, q_app_g]
  rcases Int.lt_trichotomy (ρ i) k with hlt | heq | hgt
  · refine ⟨(0, q_up iv i (p.1, bif q_ile p.2 (Int.sub k 1) then p.2 else Int.sub k 1)), ?_, ?_, Or.inl ⟨rfl, hlt⟩⟩
    · have e1 : q_ile p.1 p.2 = true := by
        cases e : q_ile p.1 p.2
        · have := q_ile_n e; omega
        · rfl
      have e2 : q_cmp p.1 k = 0 := by
        rcases q_cmp_s p.1 k with ⟨e, h1⟩ | ⟨e, h1⟩ | ⟨e, h1⟩
        · exact e
        · omega
        · omega
      rw [e1, e2]
      exact List.mem_append_left _ List.mem_cons_self
    · refine q_ok_up ho g1 ?_
      cases e : q_ile p.2 (Int.sub k 1)
      · show ρ i ≤ k - 1
        omega
      · exact g2
  · refine ⟨(1, q_up iv i (k, k)), ?_, q_ok_up ho (by omega) (by omega), Or.inr (Or.inl ⟨rfl, heq⟩)⟩
    have e1 : q_ile p.1 k = true := by
      cases e : q_ile p.1 k
      · have := q_ile_n e; omega
      · rfl
    have e2 : q_ile k p.2 = true := by
      cases e : q_ile k p.2
      · have := q_ile_n e; omega
      · rfl
    rw [e1, e2]
    exact List.mem_append_right _ (List.mem_append_left _ List.mem_cons_self)
  · refine ⟨(2, q_up iv i (bif q_ile (Int.add k 1) p.1 then p.1 else Int.add k 1, p.2)), ?_, ?_, Or.inr (Or.inr ⟨rfl, hgt⟩)⟩
    · have e2 : q_cmp k p.2 = 0 := by
        rcases q_cmp_s k p.2 with ⟨e, h1⟩ | ⟨e, h1⟩ | ⟨e, h1⟩
        · exact e
        · omega
        · omega
      rw [e2]
      exact List.mem_append_right _ (List.mem_append_right _ List.mem_cons_self)
    · refine q_ok_up ho ?_ g2
      cases e : q_ile (Int.add k 1) p.1
      · show k + 1 ≤ ρ i
        omega
      · exact g1
theorem q_c3_s {ρ : Nat → Int} {iv : q_I} {a b : q_V} {l : List (Nat × q_I)} (ho : q_ok ρ iv) (h : q_c3 iv a b = some l) :
    (((a.1 = 0 ∨ a.1 = 6) ∧ (b.1 = 0 ∨ b.1 = 6)) ∨ ((a.1 = 1 ∨ a.1 = 7) ∧ (b.1 = 1 ∨ b.1 = 7))) ∧ ∃ q ∈ l, q_ok ρ q.2 ∧ ((q.1 = 0 ∧ q_nv ρ a < q_nv ρ b) ∨ (q.1 = 1 ∧ q_nv ρ a = q_nv ρ b) ∨ (q.1 = 2 ∧ q_nv ρ b < q_nv ρ a)) := by
  obtain ⟨t, x⟩ := a
  obtain ⟨u, y⟩ := b
  unfold q_c3 at h
  dsimp only at h
  cases c1 : (bif Nat.beq t 0 then Nat.beq u 0 else false) with
  | true =>
    rw [c1] at h
    obtain ⟨d1, d2⟩ := q_and_i c1
    have e1 : t = 0 := q_bq d1
    have e2 : u = 0 := q_bq d2
    subst e1; subst e2
    cases q_so h
    exact ⟨Or.inl ⟨Or.inl rfl, Or.inl rfl⟩, _, List.mem_cons_self, ho, q_cmp_s _ _⟩
  | false =>
  rw [c1] at h
  cases c2 : (bif Nat.beq t 1 then Nat.beq u 1 else false) with
  | true =>
    rw [c2] at h
    obtain ⟨d1, d2⟩ := q_and_i c2
    have e1 : t = 1 := q_bq d1
    have e2 : u = 1 := q_bq d2
    subst e1; subst e2
    cases q_so h
    exact ⟨Or.inr ⟨Or.inl rfl, Or.inl rfl⟩, _, List.mem_cons_self, ho, q_cmp_s _ _⟩
  | false =>
  rw [c2] at h
  cases c3 : (bif Nat.beq t 6 then Nat.beq u 0 else false) with
  | true =>
    rw [c3] at h
    obtain ⟨d1, d2⟩ := q_and_i c3
    have e1 : t = 6 := q_bq d1
    have e2 : u = 0 := q_bq d2
    subst e1; subst e2
    exact ⟨Or.inl ⟨Or.inr rfl, Or.inl rfl⟩, q_split_s ho h⟩
  | false =>
  rw [c3] at h
  cases c4 : (bif Nat.beq t 7 then Nat.beq u 1 else false) with
  | true =>
    rw [c4] at h
    obtain ⟨d1, d2⟩ := q_and_i c4
    have e1 : t = 7 := q_bq d1
    have e2 : u = 1 := q_bq d2
    subst e1; subst e2
    exact ⟨Or.inr ⟨Or.inr rfl, Or.inl rfl⟩, q_split_s ho h⟩
  | false =>
  rw [c4] at h
  cases c5 : (bif Nat.beq u 6 then Nat.beq t 0 else false) with
  | true =>
    rw [c5] at h
    obtain ⟨d1, d2⟩ := q_and_i c5
    have e1 : u = 6 := q_bq d1
    have e2 : t = 0 := q_bq d2
    subst e1; subst e2
    obtain ⟨l0, h1, h2⟩ := q_bd_i h
    cases q_so h2
    obtain ⟨q, g1, g2, g3⟩ := q_split_s ho h1
    refine ⟨Or.inl ⟨Or.inl rfl, Or.inr rfl⟩, (Nat.sub 2 q.1, q.2), by rw [q_map_g]; exact List.mem_map.mpr ⟨q, g1, rfl⟩, g2, ?_⟩
    rcases g3 with ⟨e, g⟩ | ⟨e, g⟩ | ⟨e, g⟩ <;> rw [e]
    · exact Or.inr (Or.inr ⟨rfl, g⟩)
    · exact Or.inr (Or.inl ⟨rfl, g.symm⟩)
    · exact Or.inl ⟨rfl, g⟩
  | false =>
  rw [c5] at h
  cases c6 : (bif Nat.beq u 7 then Nat.beq t 1 else false) with
  | true =>
    rw [c6] at h
    obtain ⟨d1, d2⟩ := q_and_i c6
    have e1 : u = 7 := q_bq d1
    have e2 : t = 1 := q_bq d2
    subst e1; subst e2
    obtain ⟨l0, h1, h2⟩ := q_bd_i h
    cases q_so h2
    obtain ⟨q, g1, g2, g3⟩ := q_split_s ho h1
    refine ⟨Or.inr ⟨Or.inl rfl, Or.inr rfl⟩, (Nat.sub 2 q.1, q.2), by rw [q_map_g]; exact List.mem_map.mpr ⟨q, g1, rfl⟩, g2, ?_⟩
    rcases g3 with ⟨e, g⟩ | ⟨e, g⟩ | ⟨e, g⟩ <;> rw [e]
    · exact Or.inr (Or.inr ⟨rfl, g⟩)
    · exact Or.inr (Or.inl ⟨rfl, g.symm⟩)
    · exact Or.inl ⟨rfl, g⟩
  | false =>
  rw [c6] at h
  cases h
theorem q_nv_i {ρ : Nat → Int} {bs : Nat} {ws : va_W} {a : q_V} {x : Int32} (hr : q_rg ρ) (ht : a.1 = 0 ∨ a.1 = 6) (hv : q_rv ρ bs ws a (.int x)) : x.toInt = q_nv ρ a := by
  obtain ⟨t, z⟩ := a
  rcases ht with e | e <;> (have e1 : t = _ := e) <;> subst e1
  · have e2 : Value.int x = .int (Int32.ofInt z) := hv
    cases e2
    exact q_w32_m z
  · have e2 : Value.int x = .int (Int32.ofInt (ρ z.toNat)) := hv
    cases e2
    rw [q_w32_m, q_w32_id (hr _).1 (hr _).2]; rfl
theorem q_nv_j {ρ : Nat → Int} {bs : Nat} {ws : va_W} {a : q_V} {x : Int64} (hr : q_rg ρ) (ht : a.1 = 1 ∨ a.1 = 7) (hv : q_rv ρ bs ws a (.long x)) : x.toInt = q_nv ρ a := by
  obtain ⟨t, z⟩ := a
  have hq := hr z.toNat
  rcases ht with e | e <;> (have e1 : t = _ := e) <;> subst e1
  · have e2 : Value.long x = .long (Int64.ofInt z) := hv
    cases e2
    exact q_w64_m z
  · have e2 : Value.long x = .long (Int64.ofInt (ρ z.toNat)) := hv
    cases e2
    rw [q_w64_m, q_w64_id (by omega) (by omega)]; rfl
end
section
/-! Part 07: each instruction of the pure machine is the machine's. A row's own law is a premise here ('row'); part 10 gives them. -/
def q_A (base : Nat) : Nat → Prop := fun q => base ≤ q
def q_G (w : Heap → List Loc → Nat → Nat → Nat → Array Slot → List Value → Prop) (cl9 : List vw_C) (nL : Nat) (ρ : Nat → Int) (bs base : Nat) (D : va_G) (ws0 : va_W) (s : State) (c : q_C) : Prop :=
  q_ok ρ c.2.2.2.2.1 → ∀ (ws : va_W) (tys : List (ClassId × FieldType)) (H : Heap) (locs : List Loc) (ls : Array Slot) (lv : List (Nat × Value)) (sR : List Value),
    va_K D cl9 tys s → va_P D cl9 ws H → va_D (q_A base) ws → va_S (q_A base) s.heap H locs → q_W ρ bs ws tys c.2.2.2.1 → q_Ex ws0 ws → q_F2 (q_rl ρ bs ws) c.2.1 lv → q_F2 (q_rv ρ bs ws) c.2.2.1 sR → lv_has ls nL lv →
    w H locs c.2.2.2.2.2.1 c.2.2.2.2.2.2 c.1 ls sR
theorem q_lk_s {ρ : Nat → Int} {bs : Nat} {ws : va_W} {i : Nat} : ∀ {lo : q_L} {lv : List (Nat × Value)} {a : q_V}, q_lk i lo = some a → q_F2 (q_rl ρ bs ws) lo lv → ∃ V, (i, V) ∈ lv ∧ q_rv ρ bs ws a V
  | [], lv, a, h, hF => by cases h
  | x :: lo, lv, a, h, hF => by
    obtain ⟨y, r, rfl, h1, h2⟩ := q_F2_c hF
    have h' : (bif Nat.beq x.1 i then some x.2 else q_lk i lo) = some a := h
    cases hb : Nat.beq x.1 i with
    | true =>
      rw [hb] at h'
      cases q_so h'
      have e := q_bq hb
      exact ⟨y.2, by rw [← e, h1.1]; exact List.mem_cons_self, h1.2⟩
    | false =>
      rw [hb] at h'
      obtain ⟨V, g1, g2⟩ := q_lk_s h' h2
      exact ⟨V, List.mem_cons_of_mem _ g1, g2⟩
theorem q_fil_s {ρ : Nat → Int} {bs : Nat} {ws : va_W} {i : Nat} {w : Bool} {P : Nat × Value → Bool} (hP : ∀ q : Nat × Value, P q = (!(q.1 == i) && (!(w && q.1 == i + 1) && !(q.1 + 1 == i && q.2.category == 2)))) : ∀ {lo : q_L} {lv : List (Nat × Value)}, q_F2 (q_rl ρ bs ws) lo lv → q_F2 (q_rl ρ bs ws) (q_fil i w lo) (lv.filter P)
  | [], lv, hF => by rw [q_F2_n hF]; trivial
  | x :: lo, lv, hF => by
    obtain ⟨y, r, rfl, h1, h2⟩ := q_F2_c hF
    have ih := q_fil_s (i := i) (w := w) (P := P) hP h2
    have ec := q_is2_i h1.2
    have e1 := h1.1
    show q_F2 _ (bif Nat.beq x.1 i then q_fil i w lo else bif (bif w then Nat.beq x.1 (i + 1) else false) then q_fil i w lo else bif (bif Nat.beq (x.1 + 1) i then q_is2 x.2.1 else false) then q_fil i w lo else x :: q_fil i w lo) _
    have hb : ∀ a b : Nat, Nat.beq a b = (a == b) := fun a b => by
      cases h : Nat.beq a b
      · cases h2 : (a == b)
        · rfl
        · rw [beq_iff_eq] at h2; rw [h2, Nat.beq_refl] at h; cases h
      · have := q_bq h
        rw [this, beq_self_eq_true]
    have ec2 : (y.2.category == 2) = q_is2 x.2.1 := by rw [ec]; cases q_is2 x.2.1 <;> rfl
    rw [List.filter_cons, hP y, hb, hb, hb, e1, ec2]
    generalize (y.1 == i) = b1
    generalize (y.1 == i + 1) = b2
    generalize (y.1 + 1 == i) = b3
    generalize q_is2 x.2.1 = b4
    cases b1 <;> cases b2 <;> cases b3 <;> cases b4 <;> cases w <;> first | exact ih | exact ⟨h1, ih⟩
section q_sec
variable {w : Heap → List Loc → Nat → Nat → Nat → Array Slot → List Value → Prop} {cl9 : List vw_C} {nL : Nat} {ρ : Nat → Int} {bs base : Nat} {D : va_G} {ws0 : va_W} {s : State}
variable {pc nx : Nat} {lo : q_L} {st : List q_V} {hp : q_H} {iv : q_I} {cl sl : Nat} {z : List q_C × List q_Lf}
theorem q_s_one {v : q_V} {V : Value} (hV : ∀ ws, q_rv ρ bs ws v V) (row : ∀ H locs ls r, w H locs cl sl nx ls (V :: r) → w H locs cl sl pc ls r)
    (h : q_one v nx lo st hp iv cl sl = some z) (hz : ∀ c ∈ z.1, q_G w cl9 nL ρ bs base D ws0 s c) : q_G w cl9 nL ρ bs base D ws0 s (pc, lo, st, hp, iv, cl, sl) := by
  intro ho ws tys H locs ls lv sR hK hP hD hS hW hE hL hF hl
  cases q_so h
  exact row _ _ _ _ (hz _ List.mem_cons_self ho ws tys H locs ls lv (V :: sR) hK hP hD hS hW hE hL ⟨hV ws, hF⟩ hl)
theorem q_s_load {P : Nat → Bool} {x : Nat} {S : Value → Prop} (hPS : ∀ ws a V, P a.1 = true → q_rv ρ bs ws a V → S V) (row : ∀ H locs ls r V, S V → ls[x]? = some (.val V) → w H locs cl sl nx ls (V :: r) → w H locs cl sl pc ls r)
    (h : q_oLoad P x nx lo st hp iv cl sl = some z) (hz : ∀ c ∈ z.1, q_G w cl9 nL ρ bs base D ws0 s c) : q_G w cl9 nL ρ bs base D ws0 s (pc, lo, st, hp, iv, cl, sl) := by
  intro ho ws tys H locs ls lv sR hK hP hD hS hW hE hL hF hl
  obtain ⟨a, h1, h⟩ := q_bd_i h
  obtain ⟨h2, h⟩ := q_if_i h
  cases q_so h
  obtain ⟨V, g1, g2⟩ := q_lk_s h1 hL
  exact row _ _ _ _ V (hPS ws a V h2 g2) (hl.2.2 _ g1) (hz _ List.mem_cons_self ho ws tys H locs ls lv (V :: sR) hK hP hD hS hW hE hL ⟨q_conc_rv ho g2, hF⟩ hl)
theorem q_s_store {P : Nat → Bool} {wd : Bool} {x : Nat} {S : Value → Prop} (hPS : ∀ ws a V, P a.1 = true → q_rv ρ bs ws a V → S V)
    (row : ∀ H locs ls r V lv, S V → lv_has ls nL lv → (∀ ls', lv_has ls' nL ((x, V) :: lv.filter (fun q => !(q.1 == x) && (!(wd && q.1 == x + 1) && !(q.1 + 1 == x && q.2.category == 2)))) → w H locs cl sl nx ls' r) → w H locs cl sl pc ls (V :: r))
    (h : q_oStore P wd x nx lo st hp iv cl sl = some z) (hz : ∀ c ∈ z.1, q_G w cl9 nL ρ bs base D ws0 s c) : q_G w cl9 nL ρ bs base D ws0 s (pc, lo, st, hp, iv, cl, sl) := by
  intro ho ws tys H locs ls lv sR hK hP hD hS hW hE hL hF hl
  obtain ⟨q, h1, h⟩ := q_bd_i h
  obtain ⟨h2, h⟩ := q_if_i h
  obtain ⟨-, h⟩ := q_if_i h
  cases q_so h
  have e := q_pop_i h1
  rw [e] at hF
  obtain ⟨V, r, rfl, g1, g2⟩ := q_F2_c hF
  refine row _ _ _ _ V lv (hPS ws _ V h2 g1) hl (fun ls' hl' => ?_)
  exact hz _ List.mem_cons_self ho ws tys H locs ls' ((x, V) :: lv.filter (fun q => !(q.1 == x) && (!(wd && q.1 == x + 1) && !(q.1 + 1 == x && q.2.category == 2)))) r hK hP hD hS hW hE ⟨⟨rfl, g1⟩, q_fil_s (fun _ => rfl) hL⟩ g2 hl'
theorem q_s_bin0 {f : Int → Int → Int} (row : ∀ H locs ls r a b, w H locs cl sl nx ls (.int (Int32.ofInt (f a b)) :: r) → w H locs cl sl pc ls (.int (Int32.ofInt b) :: .int (Int32.ofInt a) :: r))
    (h : q_oBin 0 f nx lo st hp iv cl sl = some z) (hz : ∀ c ∈ z.1, q_G w cl9 nL ρ bs base D ws0 s c) : q_G w cl9 nL ρ bs base D ws0 s (pc, lo, st, hp, iv, cl, sl) := by
  intro ho ws tys H locs ls lv sR hK hP hD hS hW hE hL hF hl
  obtain ⟨q, h1, h⟩ := q_bd_i h
  obtain ⟨q2, h2, h⟩ := q_bd_i h
  obtain ⟨h3, h⟩ := q_if_i h
  obtain ⟨h4, h5⟩ := q_and_i h3
  cases q_so h
  have e := q_pop_i h1
  have e2 := q_pop_i h2
  rw [e, e2] at hF
  obtain ⟨V, r, rfl, g1, hF1⟩ := q_F2_c hF
  obtain ⟨V2, r2, rfl, g2, hF2⟩ := q_F2_c hF1
  obtain ⟨⟨t, b⟩, q9⟩ := q
  obtain ⟨⟨u, a⟩, q8⟩ := q2
  have e3 : t = 0 := q_bq h4
  have e4 : u = 0 := q_bq h5
  subst e3; subst e4
  have e5 : V = .int (Int32.ofInt b) := g1
  have e6 : V2 = .int (Int32.ofInt a) := g2
  subst e5; subst e6
  exact row _ _ _ _ a b (hz _ List.mem_cons_self ho ws tys H locs ls lv _ hK hP hD hS hW hE hL ⟨rfl, hF2⟩ hl)
theorem q_s_bin1 {f : Int → Int → Int} (row : ∀ H locs ls r a b, w H locs cl sl nx ls (.long (Int64.ofInt (f a b)) :: r) → w H locs cl sl pc ls (.long (Int64.ofInt b) :: .long (Int64.ofInt a) :: r))
    (h : q_oBin 1 f nx lo st hp iv cl sl = some z) (hz : ∀ c ∈ z.1, q_G w cl9 nL ρ bs base D ws0 s c) : q_G w cl9 nL ρ bs base D ws0 s (pc, lo, st, hp, iv, cl, sl) := by
  intro ho ws tys H locs ls lv sR hK hP hD hS hW hE hL hF hl
  obtain ⟨q, h1, h⟩ := q_bd_i h
  obtain ⟨q2, h2, h⟩ := q_bd_i h
  obtain ⟨h3, h⟩ := q_if_i h
  obtain ⟨h4, h5⟩ := q_and_i h3
  cases q_so h
  have e := q_pop_i h1
  have e2 := q_pop_i h2
  rw [e, e2] at hF
  obtain ⟨V, r, rfl, g1, hF1⟩ := q_F2_c hF
  obtain ⟨V2, r2, rfl, g2, hF2⟩ := q_F2_c hF1
  obtain ⟨⟨t, b⟩, q9⟩ := q
  obtain ⟨⟨u, a⟩, q8⟩ := q2
  have e3 : t = 1 := q_bq h4
  have e4 : u = 1 := q_bq h5
  subst e3; subst e4
  have e5 : V = .long (Int64.ofInt b) := g1
  have e6 : V2 = .long (Int64.ofInt a) := g2
  subst e5; subst e6
  exact row _ _ _ _ a b (hz _ List.mem_cons_self ho ws tys H locs ls lv _ hK hP hD hS hW hE hL ⟨rfl, hF2⟩ hl)
theorem q_s_div0 {f : Int → Int → Int} (row : ∀ H locs ls r a b, ¬ Int32.ofInt b = 0 → w H locs cl sl nx ls (.int (Int32.ofInt (f a b)) :: r) → w H locs cl sl pc ls (.int (Int32.ofInt b) :: .int (Int32.ofInt a) :: r))
    (h : q_oDiv 0 f q_w32 nx lo st hp iv cl sl = some z) (hz : ∀ c ∈ z.1, q_G w cl9 nL ρ bs base D ws0 s c) : q_G w cl9 nL ρ bs base D ws0 s (pc, lo, st, hp, iv, cl, sl) := by
  intro ho ws tys H locs ls lv sR hK hP hD hS hW hE hL hF hl
  obtain ⟨q, h1, h⟩ := q_bd_i h
  obtain ⟨q2, h2, h⟩ := q_bd_i h
  obtain ⟨h3, h⟩ := q_if_i h
  obtain ⟨h4, h5⟩ := q_and_i h3
  obtain ⟨h5q1, h6⟩ := q_and_i h5
  cases q_so h
  have e := q_pop_i h1
  have e2 := q_pop_i h2
  rw [e, e2] at hF
  obtain ⟨V, r, rfl, g1, hF1⟩ := q_F2_c hF
  obtain ⟨V2, r2, rfl, g2, hF2⟩ := q_F2_c hF1
  obtain ⟨⟨t, b⟩, q9⟩ := q
  obtain ⟨⟨u, a⟩, q8⟩ := q2
  have e3 : t = 0 := q_bq h4
  have e4 : u = 0 := q_bq h5q1
  subst e3; subst e4
  have e5 : V = .int (Int32.ofInt b) := g1
  have e6 : V2 = .int (Int32.ofInt a) := g2
  subst e5; subst e6
  refine row _ _ _ _ a b (fun hb => ?_) (hz _ List.mem_cons_self ho ws tys H locs ls lv _ hK hP hD hS hW hE hL ⟨rfl, hF2⟩ hl)
  have h7 := q_ieq_n (q_not_i h6)
  have h8 := congrArg Int32.toInt hb
  rw [q_w32_m] at h8
  exact h7 h8
theorem q_s_div1 {f : Int → Int → Int} (row : ∀ H locs ls r a b, ¬ Int64.ofInt b = 0 → w H locs cl sl nx ls (.long (Int64.ofInt (f a b)) :: r) → w H locs cl sl pc ls (.long (Int64.ofInt b) :: .long (Int64.ofInt a) :: r))
    (h : q_oDiv 1 f q_w64 nx lo st hp iv cl sl = some z) (hz : ∀ c ∈ z.1, q_G w cl9 nL ρ bs base D ws0 s c) : q_G w cl9 nL ρ bs base D ws0 s (pc, lo, st, hp, iv, cl, sl) := by
  intro ho ws tys H locs ls lv sR hK hP hD hS hW hE hL hF hl
  obtain ⟨q, h1, h⟩ := q_bd_i h
  obtain ⟨q2, h2, h⟩ := q_bd_i h
  obtain ⟨h3, h⟩ := q_if_i h
  obtain ⟨h4, h5⟩ := q_and_i h3
  obtain ⟨h5q1, h6⟩ := q_and_i h5
  cases q_so h
  have e := q_pop_i h1
  have e2 := q_pop_i h2
  rw [e, e2] at hF
  obtain ⟨V, r, rfl, g1, hF1⟩ := q_F2_c hF
  obtain ⟨V2, r2, rfl, g2, hF2⟩ := q_F2_c hF1
  obtain ⟨⟨t, b⟩, q9⟩ := q
  obtain ⟨⟨u, a⟩, q8⟩ := q2
  have e3 : t = 1 := q_bq h4
  have e4 : u = 1 := q_bq h5q1
  subst e3; subst e4
  have e5 : V = .long (Int64.ofInt b) := g1
  have e6 : V2 = .long (Int64.ofInt a) := g2
  subst e5; subst e6
  refine row _ _ _ _ a b (fun hb => ?_) (hz _ List.mem_cons_self ho ws tys H locs ls lv _ hK hP hD hS hW hE hL ⟨rfl, hF2⟩ hl)
  have h7 := q_ieq_n (q_not_i h6)
  have h8 := congrArg Int64.toInt hb
  rw [q_w64_m] at h8
  exact h7 h8
theorem q_s_any {g : Int32 → Int32 → Int32} (row : ∀ H locs ls r a b, w H locs cl sl nx ls (.int (g a b) :: r) → w H locs cl sl pc ls (.int b :: .int a :: r))
    (h : q_oAny (fun a b => (g (Int32.ofInt a) (Int32.ofInt b)).toInt) nx lo st hp iv cl sl = some z) (hz : ∀ c ∈ z.1, q_G w cl9 nL ρ bs base D ws0 s c) : q_G w cl9 nL ρ bs base D ws0 s (pc, lo, st, hp, iv, cl, sl) := by
  intro ho ws tys H locs ls lv sR hK hP hD hS hW hE hL hF hl
  obtain ⟨q, h1, h⟩ := q_bd_i h
  obtain ⟨q2, h2, h⟩ := q_bd_i h
  have e := q_pop_i h1
  have e2 := q_pop_i h2
  rw [e, e2] at hF
  obtain ⟨V, r, rfl, g1, hF1⟩ := q_F2_c hF
  obtain ⟨V2, r2, rfl, g2, hF2⟩ := q_F2_c hF1
  cases hb : (bif Nat.beq q.1.1 0 then Nat.beq q2.1.1 0 else false) with
  | true =>
    rw [hb] at h
    cases q_so h
    obtain ⟨h4, h5⟩ := q_and_i hb
    obtain ⟨⟨t, b⟩, q9⟩ := q
    obtain ⟨⟨u, a⟩, q8⟩ := q2
    have e3 : t = 0 := q_bq h4
    have e4 : u = 0 := q_bq h5
    subst e3; subst e4
    have e5 : V = .int (Int32.ofInt b) := g1
    have e6 : V2 = .int (Int32.ofInt a) := g2
    subst e5; subst e6
    exact row _ _ _ _ _ _ (hz _ List.mem_cons_self ho ws tys H locs ls lv _ hK hP hD hS hW hE hL ⟨(by show Value.int _ = .int (Int32.ofInt (Int32.toInt _)); rw [Int32.ofInt_toInt]), hF2⟩ hl)
  | false =>
    rw [hb] at h
    obtain ⟨h3, h⟩ := q_if_i h
    obtain ⟨h4, h5⟩ := q_and_i h3
    cases q_so h
    obtain ⟨x, rfl⟩ := q_isI_i h4 g1
    obtain ⟨y, rfl⟩ := q_isI_i h5 g2
    exact row _ _ _ _ _ _ (hz _ List.mem_cons_self ho ws tys H locs ls lv _ hK hP hD hS hW hE hL ⟨⟨_, rfl⟩, hF2⟩ hl)
theorem q_s_and (h6 : Int32.ofInt (ρ 0) &&& 63 = Int32.ofInt (ρ 6)) (row : ∀ H locs ls r a b, w H locs cl sl nx ls (.int (a &&& b) :: r) → w H locs cl sl pc ls (.int b :: .int a :: r))
    (h : q_oAnd nx lo st hp iv cl sl = some z) (hz : ∀ c ∈ z.1, q_G w cl9 nL ρ bs base D ws0 s c) : q_G w cl9 nL ρ bs base D ws0 s (pc, lo, st, hp, iv, cl, sl) := by
  obtain ⟨q, h1, h⟩ := q_bd_i h
  obtain ⟨q2, h2, h⟩ := q_bd_i h
  cases hb : (bif Nat.beq q.1.1 0 then (bif Nat.beq q2.1.1 6 then (bif Nat.beq q2.1.2.toNat 0 then q_ieq q.1.2 63 else false) else false) else false) with
  | false =>
    rw [hb] at h
    exact q_s_any (g := fun a b => a &&& b) row h hz
  | true =>
    rw [hb] at h
    intro ho ws tys H locs ls lv sR hK hP hD hS hW hE hL hF hl
    have e := q_pop_i h1
    have e2 := q_pop_i h2
    rw [e, e2] at hF
    obtain ⟨V, r, rfl, g1, hF1⟩ := q_F2_c hF
    obtain ⟨V2, r2, rfl, g2, hF2⟩ := q_F2_c hF1
    cases q_so h
    obtain ⟨h3, h4⟩ := q_and_i hb
    obtain ⟨h4q1, h5⟩ := q_and_i h4
    obtain ⟨h5q2, h7⟩ := q_and_i h5
    obtain ⟨⟨t, b⟩, q9⟩ := q
    obtain ⟨⟨u, a⟩, q8⟩ := q2
    have e3 : t = 0 := q_bq h3
    have e4 : u = 6 := q_bq h4q1
    subst e3; subst e4
    have e5 : V = .int (Int32.ofInt b) := g1
    have e6 : V2 = .int (Int32.ofInt (ρ a.toNat)) := g2
    have e7 : a.toNat = 0 := q_bq h5q2
    have e8 : b = 63 := q_ieq_i h7
    subst e5; subst e6; subst e8
    rw [e7]
    refine row _ _ _ _ _ _ ?_
    rw [show Int32.ofInt (ρ 0) &&& Int32.ofInt 63 = Int32.ofInt (ρ 6) from h6]
    exact hz _ List.mem_cons_self ho ws tys H locs ls lv _ hK hP hD hS hW hE hL ⟨q_conc_rv ho (show q_rv ρ bs ws (6, 6) (.int (Int32.ofInt (ρ 6))) from rfl), hF2⟩ hl
theorem q_s_un0 {g : Int32 → Int32} (row : ∀ H locs ls r a, w H locs cl sl nx ls (.int (g a) :: r) → w H locs cl sl pc ls (.int a :: r))
    (h : q_oUn 0 0 (fun a => (g (Int32.ofInt a)).toInt) nx lo st hp iv cl sl = some z) (hz : ∀ c ∈ z.1, q_G w cl9 nL ρ bs base D ws0 s c) : q_G w cl9 nL ρ bs base D ws0 s (pc, lo, st, hp, iv, cl, sl) := by
  intro ho ws tys H locs ls lv sR hK hP hD hS hW hE hL hF hl
  obtain ⟨q, h1, h⟩ := q_bd_i h
  obtain ⟨h3, h⟩ := q_if_i h
  cases q_so h
  have e := q_pop_i h1
  rw [e] at hF
  obtain ⟨V, r, rfl, g1, hF1⟩ := q_F2_c hF
  obtain ⟨⟨t, b⟩, q9⟩ := q
  have e3 : t = 0 := q_bq h3
  subst e3
  have e5 : V = .int (Int32.ofInt b) := g1
  subst e5
  exact row _ _ _ _ _ (hz _ List.mem_cons_self ho ws tys H locs ls lv _ hK hP hD hS hW hE hL ⟨(by show Value.int _ = .int (Int32.ofInt (Int32.toInt _)); rw [Int32.ofInt_toInt]), hF1⟩ hl)
theorem q_s_i2l (hr : q_rg ρ) (row : ∀ H locs ls r a, w H locs cl sl nx ls (.long a.toInt64 :: r) → w H locs cl sl pc ls (.int a :: r))
    (h : q_oI2l nx lo st hp iv cl sl = some z) (hz : ∀ c ∈ z.1, q_G w cl9 nL ρ bs base D ws0 s c) : q_G w cl9 nL ρ bs base D ws0 s (pc, lo, st, hp, iv, cl, sl) := by
  intro ho ws tys H locs ls lv sR hK hP hD hS hW hE hL hF hl
  obtain ⟨q, h1, h⟩ := q_bd_i h
  have e := q_pop_i h1
  rw [e] at hF
  obtain ⟨V, r, rfl, g1, hF1⟩ := q_F2_c hF
  obtain ⟨⟨t, b⟩, q9⟩ := q
  dsimp only at h g1
  cases hb : Nat.beq t 0 with
  | true =>
    rw [hb] at h
    cases q_so h
    have e3 : t = 0 := q_bq hb
    subst e3
    have e5 : V = .int (Int32.ofInt b) := g1
    subst e5
    exact row _ _ _ _ _ (hz _ List.mem_cons_self ho ws tys H locs ls lv _ hK hP hD hS hW hE hL ⟨(by show Value.long _ = .long (Int64.ofInt (q_w32 b)); rw [q_il]), hF1⟩ hl)
  | false =>
    rw [hb] at h
    obtain ⟨h3, h⟩ := q_if_i h
    cases q_so h
    have e3 : t = 6 := q_bq h3
    subst e3
    have e5 : V = .int (Int32.ofInt (ρ b.toNat)) := g1
    subst e5
    exact row _ _ _ _ _ (hz _ List.mem_cons_self ho ws tys H locs ls lv _ hK hP hD hS hW hE hL ⟨(by show Value.long _ = .long (Int64.ofInt (ρ b.toNat)); rw [q_il, q_w32_id (hr _).1 (hr _).2]), hF1⟩ hl)
theorem q_s_l2i (hr : q_rg ρ) (row : ∀ H locs ls r a, w H locs cl sl nx ls (.int a.toInt32 :: r) → w H locs cl sl pc ls (.long a :: r))
    (h : q_oL2i nx lo st hp iv cl sl = some z) (hz : ∀ c ∈ z.1, q_G w cl9 nL ρ bs base D ws0 s c) : q_G w cl9 nL ρ bs base D ws0 s (pc, lo, st, hp, iv, cl, sl) := by
  intro ho ws tys H locs ls lv sR hK hP hD hS hW hE hL hF hl
  obtain ⟨q, h1, h⟩ := q_bd_i h
  have e := q_pop_i h1
  rw [e] at hF
  obtain ⟨V, r, rfl, g1, hF1⟩ := q_F2_c hF
  obtain ⟨⟨t, b⟩, q9⟩ := q
  dsimp only at h g1
  cases hb : Nat.beq t 1 with
  | true =>
    rw [hb] at h
    cases q_so h
    have e3 : t = 1 := q_bq hb
    subst e3
    have e5 : V = .long (Int64.ofInt b) := g1
    subst e5
    exact row _ _ _ _ _ (hz _ List.mem_cons_self ho ws tys H locs ls lv _ hK hP hD hS hW hE hL ⟨(by show Value.int _ = .int (Int32.ofInt (q_w32 b)); rw [q_li]), hF1⟩ hl)
  | false =>
    rw [hb] at h
    obtain ⟨h3, h⟩ := q_if_i h
    cases q_so h
    have e3 : t = 7 := q_bq h3
    subst e3
    have e5 : V = .long (Int64.ofInt (ρ b.toNat)) := g1
    subst e5
    exact row _ _ _ _ _ (hz _ List.mem_cons_self ho ws tys H locs ls lv _ hK hP hD hS hW hE hL ⟨(by show Value.int _ = .int (Int32.ofInt (ρ b.toNat)); rw [q_li, q_o32]), hF1⟩ hl)
theorem q_s_i2b (row : ∀ H locs ls r a, w H locs cl sl nx ls (.int a.toInt8.toInt32 :: r) → w H locs cl sl pc ls (.int a :: r))
    (h : q_oI2b nx lo st hp iv cl sl = some z) (hz : ∀ c ∈ z.1, q_G w cl9 nL ρ bs base D ws0 s c) : q_G w cl9 nL ρ bs base D ws0 s (pc, lo, st, hp, iv, cl, sl) := by
  intro ho ws tys H locs ls lv sR hK hP hD hS hW hE hL hF hl
  obtain ⟨q, h1, h⟩ := q_bd_i h
  obtain ⟨h3, h⟩ := q_if_i h
  cases q_so h
  have e := q_pop_i h1
  rw [e] at hF
  obtain ⟨V, r, rfl, g1, hF1⟩ := q_F2_c hF
  obtain ⟨x, rfl⟩ := q_isI_i h3 g1
  exact row _ _ _ _ _ (hz _ List.mem_cons_self ho ws tys H locs ls lv _ hK hP hD hS hW hE hL ⟨⟨_, rfl⟩, hF1⟩ hl)
theorem q_s_f2d (row : ∀ H locs ls r, w H locs cl sl nx ls (.double (UInt64.ofNat 0) :: r) → w H locs cl sl pc ls (.float (UInt32.ofNat 0) :: r))
    (h : ((q_pop st).bind fun p => q_if (bif Nat.beq p.1.1 4 then q_ieq p.1.2 0 else false) (q_nx nx lo ((5, 0) :: p.2) hp iv cl sl)) = some z) (hz : ∀ c ∈ z.1, q_G w cl9 nL ρ bs base D ws0 s c) : q_G w cl9 nL ρ bs base D ws0 s (pc, lo, st, hp, iv, cl, sl) := by
  intro ho ws tys H locs ls lv sR hK hP hD hS hW hE hL hF hl
  obtain ⟨q, h1, h⟩ := q_bd_i h
  obtain ⟨h3, h⟩ := q_if_i h
  obtain ⟨h3q1, h4⟩ := q_and_i h3
  cases q_so h
  have e := q_pop_i h1
  rw [e] at hF
  obtain ⟨V, r, rfl, g1, hF1⟩ := q_F2_c hF
  obtain ⟨⟨t, b⟩, q9⟩ := q
  have e3 : t = 4 := q_bq h3q1
  have e4 : b = 0 := q_ieq_i h4
  subst e3; subst e4
  have e5 : V = .float (UInt32.ofNat 0) := g1
  subst e5
  exact row _ _ _ _ (hz _ List.mem_cons_self ho ws tys H locs ls lv _ hK hP hD hS hW hE hL ⟨rfl, hF1⟩ hl)
theorem q_s_dcmp (row : ∀ H locs ls r, w H locs cl sl nx ls (.int (Int32.ofInt 0) :: r) → w H locs cl sl pc ls (.double (UInt64.ofNat 0) :: .double (UInt64.ofNat 0) :: r))
    (h : ((q_pop st).bind fun p => (q_pop p.2).bind fun r => q_if (bif Nat.beq p.1.1 5 then (bif Nat.beq r.1.1 5 then (bif q_ieq p.1.2 0 then q_ieq r.1.2 0 else false) else false) else false) (q_nx nx lo ((0, 0) :: r.2) hp iv cl sl)) = some z) (hz : ∀ c ∈ z.1, q_G w cl9 nL ρ bs base D ws0 s c) : q_G w cl9 nL ρ bs base D ws0 s (pc, lo, st, hp, iv, cl, sl) := by
  intro ho ws tys H locs ls lv sR hK hP hD hS hW hE hL hF hl
  obtain ⟨q, h1, h⟩ := q_bd_i h
  obtain ⟨q2, h2, h⟩ := q_bd_i h
  obtain ⟨h3, h⟩ := q_if_i h
  obtain ⟨h3q1, h4⟩ := q_and_i h3
  obtain ⟨h4q2, h5⟩ := q_and_i h4
  obtain ⟨h5q3, h6⟩ := q_and_i h5
  cases q_so h
  have e := q_pop_i h1
  have e2 := q_pop_i h2
  rw [e, e2] at hF
  obtain ⟨V, r, rfl, g1, hF1⟩ := q_F2_c hF
  obtain ⟨V2, r2, rfl, g2, hF2⟩ := q_F2_c hF1
  obtain ⟨⟨t, b⟩, q9⟩ := q
  obtain ⟨⟨u, a⟩, q8⟩ := q2
  have e3 : t = 5 := q_bq h3q1
  have e4 : u = 5 := q_bq h4q2
  have e7 : b = 0 := q_ieq_i h5q3
  have e8 : a = 0 := q_ieq_i h6
  subst e3; subst e4; subst e7; subst e8
  have e5 : V = .double (UInt64.ofNat 0) := g1
  have e6 : V2 = .double (UInt64.ofNat 0) := g2
  subst e5; subst e6
  exact row _ _ _ _ (hz _ List.mem_cons_self ho ws tys H locs ls lv _ hK hP hD hS hW hE hL ⟨rfl, hF2⟩ hl)
theorem q_s_lcmp (hr : q_rg ρ) (row : ∀ H locs ls r a b, w H locs cl sl nx ls (.int (lg_cmp a b) :: r) → w H locs cl sl pc ls (.long b :: .long a :: r))
    (h : q_oLcmp nx lo st hp iv cl sl = some z) (hz : ∀ c ∈ z.1, q_G w cl9 nL ρ bs base D ws0 s c) : q_G w cl9 nL ρ bs base D ws0 s (pc, lo, st, hp, iv, cl, sl) := by
  intro ho ws tys H locs ls lv sR hK hP hD hS hW hE hL hF hl
  obtain ⟨q, h1, h⟩ := q_bd_i h
  obtain ⟨q2, h2, h⟩ := q_bd_i h
  obtain ⟨h3, h⟩ := q_if_i h
  obtain ⟨h3q1, h4⟩ := q_and_i h3
  obtain ⟨l, h5, h⟩ := q_bd_i h
  cases q_so h
  have e := q_pop_i h1
  have e2 := q_pop_i h2
  rw [e, e2] at hF
  obtain ⟨V, r, rfl, g1, hF1⟩ := q_F2_c hF
  obtain ⟨V2, r2, rfl, g2, hF2⟩ := q_F2_c hF1
  obtain ⟨b, rfl⟩ := q_isJ_i h3q1 g1
  obtain ⟨a, rfl⟩ := q_isJ_i h4 g2
  obtain ⟨hk, q3, h6, h7, h8⟩ := q_c3_s ho h5
  have hk2 : (q2.1.1 = 1 ∨ q2.1.1 = 7) ∧ (q.1.1 = 1 ∨ q.1.1 = 7) := by
    rcases hk with hk | hk
    · exfalso
      rcases q_or_i h4 with e9 | e9 <;> (have e9 := q_bq e9) <;> omega
    · exact hk
  have ha := q_nv_j hr hk2.1 g2
  have hb := q_nv_j hr hk2.2 g1
  refine row _ _ _ _ a b ?_
  have hm := hz (nx, lo, (0, Int.sub (Int.ofNat q3.1) 1) :: q2.2, hp, q3.2, cl, sl) (by rw [q_map_g]; exact List.mem_map.mpr ⟨q3, h6, rfl⟩) h7 ws tys H locs ls lv (.int (lg_cmp a b) :: r2) hK hP hD hS hW hE hL ⟨?_, hF2⟩ hl
  · exact hm
  · show Value.int (lg_cmp a b) = .int (Int32.ofInt (Int.sub (Int.ofNat q3.1) 1))
    have e8 : lg_cmp a b = Int32.ofInt (Int.sub (Int.ofNat q3.1) 1) := by
      unfold lg_cmp
      rcases h8 with ⟨e9, h9⟩ | ⟨e9, h9⟩ | ⟨e9, h9⟩ <;> rw [e9]
      · have h10 : ¬ a > b := fun h => by have := Int64.lt_iff_toInt_lt.mp h; omega
        have h11 : ¬ a = b := fun h => by rw [h] at ha; omega
        rw [if_neg h10, if_neg h11]; rfl
      · have h10 : ¬ a > b := fun h => by have := Int64.lt_iff_toInt_lt.mp h; omega
        have h11 : a = b := Int64.toInt_inj.mp (by omega)
        rw [if_neg h10, if_pos h11]; rfl
      · have h10 : a > b := Int64.lt_iff_toInt_lt.mpr (by omega)
        rw [if_pos h10]; rfl
    rw [e8]
def q_cd (c : ClassFile.Cond) (x y : Int32) : Prop := match c with
  | .eq => x = y
  | .ne => ¬ x = y
  | .lt => x < y
  | .ge => y ≤ x
  | .gt => y < x
  | .le => x ≤ y
theorem q_tk_s {c : ClassFile.Cond} {x y : Int32} {r : Nat} (h : (r = 0 ∧ x.toInt < y.toInt) ∨ (r = 1 ∧ x.toInt = y.toInt) ∨ (r = 2 ∧ y.toInt < x.toInt)) : (q_tk c r = true ∧ q_cd c x y) ∨ (q_tk c r = false ∧ ¬ q_cd c x y) := by
  have hl : x < y ↔ x.toInt < y.toInt := Int32.lt_iff_toInt_lt
  have hg : y < x ↔ y.toInt < x.toInt := Int32.lt_iff_toInt_lt
  have hle : x ≤ y ↔ x.toInt ≤ y.toInt := Int32.le_iff_toInt_le
  have hge : y ≤ x ↔ y.toInt ≤ x.toInt := Int32.le_iff_toInt_le
  have he : x = y ↔ x.toInt = y.toInt := Int32.toInt_inj.symm
  rcases h with ⟨rfl, h⟩ | ⟨rfl, h⟩ | ⟨rfl, h⟩ <;> cases c <;> simp only [q_cd, hl, hg, hle, hge, he] <;> first
    | exact Or.inl ⟨rfl, by omega⟩
    | exact Or.inr ⟨rfl, by omega⟩
theorem q_s_if {c : ClassFile.Cond} {x : Nat} (hr : q_rg ρ) (row : ∀ H locs ls r a, (q_cd c a 0 → w H locs cl sl x ls r) → (¬ q_cd c a 0 → w H locs cl sl nx ls r) → w H locs cl sl pc ls (.int a :: r))
    (h : q_oIf c x nx lo st hp iv cl sl = some z) (hz : ∀ c ∈ z.1, q_G w cl9 nL ρ bs base D ws0 s c) : q_G w cl9 nL ρ bs base D ws0 s (pc, lo, st, hp, iv, cl, sl) := by
  intro ho ws tys H locs ls lv sR hK hP hD hS hW hE hL hF hl
  obtain ⟨q, h1, h⟩ := q_bd_i h
  obtain ⟨h3, h⟩ := q_if_i h
  obtain ⟨l, h5, h⟩ := q_bd_i h
  cases q_so h
  have e := q_pop_i h1
  rw [e] at hF
  obtain ⟨V, r, rfl, g1, hF1⟩ := q_F2_c hF
  obtain ⟨a, rfl⟩ := q_isI_i h3 g1
  obtain ⟨hk, q3, h6, h7, h8⟩ := q_c3_s ho h5
  have hk2 : q.1.1 = 0 ∨ q.1.1 = 6 := by
    rcases hk with hk | hk
    · exact hk.1
    · have := hk.2; simp at this
  have ha := q_nv_i hr hk2 g1
  have hb : (0 : Int32).toInt = q_nv ρ (0, 0) := rfl
  rw [← ha, ← hb] at h8
  have hm := hz (bif q_tk c q3.1 then x else nx, lo, q.2, hp, q3.2, cl, sl) (by rw [q_map_g]; exact List.mem_map.mpr ⟨q3, h6, rfl⟩) h7 ws tys H locs ls lv r hK hP hD hS hW hE hL hF1 hl
  rcases q_tk_s (c := c) h8 with ⟨e9, h9⟩ | ⟨e9, h9⟩
  · rw [e9] at hm
    exact row _ _ _ _ a (fun _ => hm) (fun h => absurd h9 h)
  · rw [e9] at hm
    exact row _ _ _ _ a (fun h => absurd h h9) (fun _ => hm)
theorem q_s_ic {c : ClassFile.Cond} {x : Nat} (hr : q_rg ρ) (row : ∀ H locs ls r a b, (q_cd c a b → w H locs cl sl x ls r) → (¬ q_cd c a b → w H locs cl sl nx ls r) → w H locs cl sl pc ls (.int b :: .int a :: r))
    (h : q_oIc c x nx lo st hp iv cl sl = some z) (hz : ∀ c ∈ z.1, q_G w cl9 nL ρ bs base D ws0 s c) : q_G w cl9 nL ρ bs base D ws0 s (pc, lo, st, hp, iv, cl, sl) := by
  intro ho ws tys H locs ls lv sR hK hP hD hS hW hE hL hF hl
  obtain ⟨q, h1, h⟩ := q_bd_i h
  obtain ⟨q2, h2, h⟩ := q_bd_i h
  obtain ⟨h3, h⟩ := q_if_i h
  obtain ⟨h3q1, h4⟩ := q_and_i h3
  obtain ⟨l, h5, h⟩ := q_bd_i h
  cases q_so h
  have e := q_pop_i h1
  have e2 := q_pop_i h2
  rw [e, e2] at hF
  obtain ⟨V, r, rfl, g1, hF1⟩ := q_F2_c hF
  obtain ⟨V2, r2, rfl, g2, hF2⟩ := q_F2_c hF1
  obtain ⟨b, rfl⟩ := q_isI_i h3q1 g1
  obtain ⟨a, rfl⟩ := q_isI_i h4 g2
  obtain ⟨hk, q3, h6, h7, h8⟩ := q_c3_s ho h5
  have hk2 : (q2.1.1 = 0 ∨ q2.1.1 = 6) ∧ (q.1.1 = 0 ∨ q.1.1 = 6) := by
    rcases hk with hk | hk
    · exact hk
    · exfalso
      rcases q_or_i h4 with e9 | e9
      · have e9 := q_bq e9; omega
      · rcases q_or_i e9 with e9 | e9 <;> (have e9 := q_bq e9) <;> omega
  have ha := q_nv_i hr hk2.1 g2
  have hb := q_nv_i hr hk2.2 g1
  rw [← ha, ← hb] at h8
  have hm := hz (bif q_tk c q3.1 then x else nx, lo, q2.2, hp, q3.2, cl, sl) (by rw [q_map_g]; exact List.mem_map.mpr ⟨q3, h6, rfl⟩) h7 ws tys H locs ls lv r2 hK hP hD hS hW hE hL hF2 hl
  rcases q_tk_s (c := c) h8 with ⟨e9, h9⟩ | ⟨e9, h9⟩
  · rw [e9] at hm
    exact row _ _ _ _ a b (fun _ => hm) (fun h => absurd h9 h)
  · rw [e9] at hm
    exact row _ _ _ _ a b (fun h => absurd h h9) (fun _ => hm)
theorem q_s_ifn {x : Nat} (rowN : ∀ H locs ls r, w H locs cl sl x ls r → w H locs cl sl pc ls (.null :: r)) (rowR : ∀ H locs ls r a, w H locs cl sl nx ls r → w H locs cl sl pc ls (.ref a :: r))
    (h : q_oIfn x nx lo st hp iv cl sl = some z) (hz : ∀ c ∈ z.1, q_G w cl9 nL ρ bs base D ws0 s c) : q_G w cl9 nL ρ bs base D ws0 s (pc, lo, st, hp, iv, cl, sl) := by
  intro ho ws tys H locs ls lv sR hK hP hD hS hW hE hL hF hl
  obtain ⟨q, h1, h⟩ := q_bd_i h
  have e := q_pop_i h1
  rw [e] at hF
  obtain ⟨V, r, rfl, g1, hF1⟩ := q_F2_c hF
  cases hb : Nat.beq q.1.1 3 with
  | true =>
    rw [hb] at h
    cases q_so h
    have e3 := q_bq hb
    obtain ⟨⟨t, b⟩, q9⟩ := q
    have e3 : t = 3 := e3
    subst e3
    have e5 : V = .null := g1
    subst e5
    exact rowN _ _ _ _ (hz _ List.mem_cons_self ho ws tys H locs ls lv _ hK hP hD hS hW hE hL hF1 hl)
  | false =>
    rw [hb] at h
    obtain ⟨h3, h⟩ := q_if_i h
    cases q_so h
    obtain ⟨a, rfl⟩ := q_isR_i h3 g1
    exact rowR _ _ _ _ a (hz _ List.mem_cons_self ho ws tys H locs ls lv _ hK hP hD hS hW hE hL hF1 hl)
theorem q_s_goto {x : Nat} (row : ∀ H locs ls r, w H locs cl sl x ls r → w H locs cl sl pc ls r)
    (h : q_nx x lo st hp iv cl sl = some z) (hz : ∀ c ∈ z.1, q_G w cl9 nL ρ bs base D ws0 s c) : q_G w cl9 nL ρ bs base D ws0 s (pc, lo, st, hp, iv, cl, sl) := by
  intro ho ws tys H locs ls lv sR hK hP hD hS hW hE hL hF hl
  cases q_so h
  exact row _ _ _ _ (hz _ List.mem_cons_self ho ws tys H locs ls lv _ hK hP hD hS hW hE hL hF hl)
theorem q_s_dup (row : ∀ H locs ls r V, V.category = 1 → w H locs cl sl nx ls (V :: V :: r) → w H locs cl sl pc ls (V :: r))
    (h : q_oDup nx lo st hp iv cl sl = some z) (hz : ∀ c ∈ z.1, q_G w cl9 nL ρ bs base D ws0 s c) : q_G w cl9 nL ρ bs base D ws0 s (pc, lo, st, hp, iv, cl, sl) := by
  intro ho ws tys H locs ls lv sR hK hP hD hS hW hE hL hF hl
  obtain ⟨q, h1, h⟩ := q_bd_i h
  have e := q_pop_i h1
  rw [e] at hF
  obtain ⟨V, r, rfl, g1, hF1⟩ := q_F2_c hF
  have hc := q_is2_i g1
  cases hb : q_is2 q.1.1 with
  | true => rw [hb] at h; cases h
  | false =>
    rw [hb] at h hc
    cases q_so h
    exact row _ _ _ _ V hc (hz _ List.mem_cons_self ho ws tys H locs ls lv _ hK hP hD hS hW hE hL ⟨g1, g1, hF1⟩ hl)
theorem q_s_pop (row : ∀ H locs ls r V, V.category = 1 → w H locs cl sl nx ls r → w H locs cl sl pc ls (V :: r))
    (h : q_oPop nx lo st hp iv cl sl = some z) (hz : ∀ c ∈ z.1, q_G w cl9 nL ρ bs base D ws0 s c) : q_G w cl9 nL ρ bs base D ws0 s (pc, lo, st, hp, iv, cl, sl) := by
  intro ho ws tys H locs ls lv sR hK hP hD hS hW hE hL hF hl
  obtain ⟨q, h1, h⟩ := q_bd_i h
  have e := q_pop_i h1
  rw [e] at hF
  obtain ⟨V, r, rfl, g1, hF1⟩ := q_F2_c hF
  have hc := q_is2_i g1
  cases hb : q_is2 q.1.1 with
  | true => rw [hb] at h; cases h
  | false =>
    rw [hb] at h hc
    cases q_so h
    exact row _ _ _ _ V hc (hz _ List.mem_cons_self ho ws tys H locs ls lv _ hK hP hD hS hW hE hL hF1 hl)
theorem q_s_dup2 (row2 : ∀ H locs ls r V, V.category = 2 → w H locs cl sl nx ls (V :: V :: r) → w H locs cl sl pc ls (V :: r)) (row1 : ∀ H locs ls r V V2, V.category = 1 → V2.category = 1 → w H locs cl sl nx ls (V :: V2 :: V :: V2 :: r) → w H locs cl sl pc ls (V :: V2 :: r))
    (h : q_oDup2 nx lo st hp iv cl sl = some z) (hz : ∀ c ∈ z.1, q_G w cl9 nL ρ bs base D ws0 s c) : q_G w cl9 nL ρ bs base D ws0 s (pc, lo, st, hp, iv, cl, sl) := by
  intro ho ws tys H locs ls lv sR hK hP hD hS hW hE hL hF hl
  obtain ⟨q, h1, h⟩ := q_bd_i h
  have e := q_pop_i h1
  rw [e] at hF
  obtain ⟨V, r, rfl, g1, hF1⟩ := q_F2_c hF
  have hc := q_is2_i g1
  cases hb : q_is2 q.1.1 with
  | true =>
    rw [hb] at h hc
    cases q_so h
    exact row2 _ _ _ _ V hc (hz _ List.mem_cons_self ho ws tys H locs ls lv _ hK hP hD hS hW hE hL ⟨g1, g1, hF1⟩ hl)
  | false =>
    rw [hb] at h hc
    obtain ⟨q2, h2, h⟩ := q_bd_i h
    have e2 := q_pop_i h2
    rw [e2] at hF1
    obtain ⟨V2, r2, rfl, g2, hF2⟩ := q_F2_c hF1
    have hc2 := q_is2_i g2
    cases hb2 : q_is2 q2.1.1 with
    | true => rw [hb2] at h; cases h
    | false =>
      rw [hb2] at h hc2
      cases q_so h
      exact row1 _ _ _ _ V V2 hc hc2 (hz _ List.mem_cons_self ho ws tys H locs ls lv _ hK hP hD hS hW hE hL ⟨g1, g2, g1, g2, hF2⟩ hl)
theorem q_s_inc {x : Nat} {n : Int} (row : ∀ H locs ls r (a : Int) lv (k : Nat), lv_has ls nL lv → lv[k]? = some (x, .int (Int32.ofInt a)) → (∀ ls', lv_has ls' nL ((x, .int (Int32.ofInt (q_w32 (a + n)))) :: lv.filter (fun q => !(q.1 == x) && (!(false && q.1 == x + 1) && !(q.1 + 1 == x && q.2.category == 2)))) → w H locs cl sl nx ls' r) → w H locs cl sl pc ls r)
    (h : q_oInc x n nx lo st hp iv cl sl = some z) (hz : ∀ c ∈ z.1, q_G w cl9 nL ρ bs base D ws0 s c) : q_G w cl9 nL ρ bs base D ws0 s (pc, lo, st, hp, iv, cl, sl) := by
  intro ho ws tys H locs ls lv sR hK hP hD hS hW hE hL hF hl
  obtain ⟨a, h1, h⟩ := q_bd_i h
  obtain ⟨h2, h⟩ := q_if_i h
  obtain ⟨-, h⟩ := q_if_i h
  cases q_so h
  obtain ⟨V, g1, g2⟩ := q_lk_s h1 hL
  have g3 := q_conc_rv ho g2
  generalize q_conc iv a = a' at h2 g3 hz
  obtain ⟨t, b⟩ := a'
  have e3 : t = 0 := q_bq h2
  subst e3
  have e5 : V = .int (Int32.ofInt b) := g3
  subst e5
  obtain ⟨k, hk⟩ := List.getElem?_of_mem g1
  refine row _ _ _ _ b lv k hl hk (fun ls' hl' => ?_)
  exact hz _ List.mem_cons_self ho ws tys H locs ls' ((x, .int (Int32.ofInt (q_w32 (b + n)))) :: lv.filter (fun q => !(q.1 == x) && (!(false && q.1 == x + 1) && !(q.1 + 1 == x && q.2.category == 2)))) sR hK hP hD hS hW hE ⟨⟨rfl, rfl⟩, q_fil_s (fun _ => rfl) hL⟩ hF hl'
theorem q_s_m2 {mx : Bool} {fr lc mc ms : Nat} {g : Int32 → Int32 → Int32} (hg : ∀ a b : Int, g (Int32.ofInt a) (Int32.ofInt b) = Int32.ofInt (bif q_ile (q_w32 a) (q_w32 b) then (bif mx then b else a) else (bif mx then a else b)))
    (hwid : ∀ ws r rR, q_F2 (q_rv ρ bs ws) r rR → (rR.map fun v => v.category).sum = q_wid r)
    (row : ∀ H locs ls r a b, 1 ≤ fr → (r.map fun v => v.category).sum + 13 ≤ lc → cl ≤ mc → sl ≤ ms → w H locs cl sl nx ls (.int (g a b) :: r) → w H locs cl sl pc ls (.int b :: .int a :: r))
    (h : q_oM2 mx fr lc mc ms nx lo st hp iv cl sl = some z) (hz : ∀ c ∈ z.1, q_G w cl9 nL ρ bs base D ws0 s c) : q_G w cl9 nL ρ bs base D ws0 s (pc, lo, st, hp, iv, cl, sl) := by
  intro ho ws tys H locs ls lv sR hK hP hD hS hW hE hL hF hl
  obtain ⟨q, h1, h⟩ := q_bd_i h
  obtain ⟨q2, h2, h⟩ := q_bd_i h
  obtain ⟨h3, h⟩ := q_if_i h
  obtain ⟨h3q1, h4⟩ := q_and_i h3
  obtain ⟨h4q2, h5⟩ := q_and_i h4
  obtain ⟨h5q3, h6⟩ := q_and_i h5
  obtain ⟨h6q4, h7⟩ := q_and_i h6
  obtain ⟨h7q5, h8⟩ := q_and_i h7
  cases q_so h
  have e := q_pop_i h1
  have e2 := q_pop_i h2
  rw [e, e2] at hF
  obtain ⟨V, r, rfl, g1, hF1⟩ := q_F2_c hF
  obtain ⟨V2, r2, rfl, g2, hF2⟩ := q_F2_c hF1
  obtain ⟨⟨t, b⟩, q9⟩ := q
  obtain ⟨⟨u, a⟩, q8⟩ := q2
  have e3 : t = 0 := q_bq h3q1
  have e4 : u = 0 := q_bq h4q2
  subst e3; subst e4
  have e5 : V = .int (Int32.ofInt b) := g1
  have e6 : V2 = .int (Int32.ofInt a) := g2
  subst e5; subst e6
  refine row _ _ _ _ _ _ (q_bl h5q3) (by rw [hwid _ _ _ hF2]; exact q_bl h6q4) (q_bl h7q5) (q_bl h8) (hz _ List.mem_cons_self ho ws tys H locs ls lv _ hK hP hD hS hW hE hL ⟨?_, hF2⟩ hl)
  rw [hg]
  cases q_ile (q_w32 a) (q_w32 b) <;> cases mx <;> rfl
theorem q_wid_s {ws : va_W} : ∀ (r : List q_V) (rR : List Value), q_F2 (q_rv ρ bs ws) r rR → (rR.map fun v => v.category).sum = q_wid r
  | [], rR, h => by rw [q_F2_n h]; rfl
  | a :: r, rR, h => by
    obtain ⟨b, m, rfl, h1, h2⟩ := q_F2_c h
    have ih := q_wid_s r m h2
    have hc := q_is2_i h1
    show b.category + (m.map fun v => v.category).sum = bif q_is2 a.1 then Nat.succ (Nat.succ (q_wid r)) else Nat.succ (q_wid r)
    rw [ih, hc]
    cases q_is2 a.1
    · show 1 + q_wid r = q_wid r + 1; omega
    · show 2 + q_wid r = q_wid r + 2; omega
theorem q_s_obj {fr lc : Nat} (row : ∀ H locs ls r a, 1 ≤ fr → (r.map fun v => v.category).sum + 12 ≤ lc → w H locs cl sl nx ls r → w H locs cl sl pc ls (.ref a :: r))
    (h : q_oObj fr lc nx lo st hp iv cl sl = some z) (hz : ∀ c ∈ z.1, q_G w cl9 nL ρ bs base D ws0 s c) : q_G w cl9 nL ρ bs base D ws0 s (pc, lo, st, hp, iv, cl, sl) := by
  intro ho ws tys H locs ls lv sR hK hP hD hS hW hE hL hF hl
  obtain ⟨q, h1, h⟩ := q_bd_i h
  obtain ⟨h3, h⟩ := q_if_i h
  obtain ⟨h3q1, h4⟩ := q_and_i h3
  obtain ⟨h4q2, h5⟩ := q_and_i h4
  cases q_so h
  have e := q_pop_i h1
  rw [e] at hF
  obtain ⟨V, r, rfl, g1, hF1⟩ := q_F2_c hF
  obtain ⟨a, rfl⟩ := q_isR_i (v := q.1) (by unfold q_isR; rw [h3q1]; rfl) g1
  exact row _ _ _ _ a (q_bl h4q2) (by rw [q_wid_s _ _ hF1]; exact q_bl h5) (hz _ List.mem_cons_self ho ws tys H locs ls lv _ hK hP hD hS hW hE hL hF1 hl)
end q_sec
end
section
/-! Part 08: the instructions that read and write cells. Printed in part by wip/tools/gen08.py. -/
theorem q_enum_s {ρ : Nat → Int} {bs : Nat} {ws : va_W} {iv : q_I} {a : q_V} {l : List (Int × q_I)} {V : Value} (hr : q_rg ρ) (ho : q_ok ρ iv) (h : q_enum iv a = some l) (hv : q_rv ρ bs ws a V) : ∃ x : Int32, V = .int x ∧ ∃ q ∈ l, q_ok ρ q.2 ∧ x.toInt = q.1 := by
  obtain ⟨t, v⟩ := a
  unfold q_enum at h
  dsimp only at h
  cases hb : Nat.beq t 0 with
  | true =>
    rw [hb] at h
    have e : t = 0 := q_bq hb
    subst e
    cases q_so h
    exact ⟨_, hv, _, List.mem_cons_self, ho, q_w32_m v⟩
  | false =>
    rw [hb] at h
    cases hb2 : Nat.beq t 6 with
    | false => rw [hb2] at h; cases h
    | true =>
      rw [hb2] at h
      have e : t = 6 := q_bq hb2
      subst e
      obtain ⟨p, h1, h⟩ := q_bd_i h
      obtain ⟨h2, h⟩ := q_if_i h
      cases q_so h
      obtain ⟨g1, g2⟩ := ho _ _ h1
      have key : ∀ n : Nat, ∀ m : Nat, m < n → (Int.add p.1 (Int.ofNat m), q_up iv v.toNat (Int.add p.1 (Int.ofNat m), Int.add p.1 (Int.ofNat m))) ∈ q_span iv v.toNat p.1 n := by
        intro n
        induction n with
        | zero => intro m hm; omega
        | succ n ih =>
          intro m hm
          show _ ∈ (_ :: q_span iv v.toNat p.1 n)
          by_cases e : m = n
          · subst e; exact List.mem_cons_self
          · exact List.mem_cons_of_mem _ (ih m (by omega))
      have e0 : Int.add p.1 (Int.ofNat (ρ v.toNat - p.1).toNat) = ρ v.toNat := by
        show p.1 + ((ρ v.toNat - p.1).toNat : Int) = _
        omega
      have hm := key (Nat.succ (Int.sub p.2 p.1).toNat) (ρ v.toNat - p.1).toNat (by
        show _ < (p.2 - p.1).toNat + 1
        omega)
      rw [e0] at hm
      refine ⟨_, hv, _, hm, q_ok_up ho (Int.le_refl _) (Int.le_refl _), ?_⟩
      rw [q_w32_m, q_w32_id (hr _).1 (hr _).2]
theorem q_ix {x : Int32} {z : Int} {n : Nat} (h : x.toInt = z) (hb : (bif q_ile 0 z then Nat.ble (Nat.succ z.toNat) n else false) = true) : vp_in x n ∧ x.toNatClampNeg = z.toNat ∧ z.toNat < n := by
  obtain ⟨h1, h2⟩ := q_and_i hb
  have h1 := q_ile_i h1
  have h2 : z.toNat + 1 ≤ n := q_bl h2
  refine ⟨vp_in_iff.mpr ⟨by omega, by omega⟩, ?_, by omega⟩
  show x.toInt.toNat = _
  rw [h]
section q_hsec
variable {w : Heap → List Loc → Nat → Nat → Nat → Array Slot → List Value → Prop} {cl9 : List vw_C} {nL : Nat} {ρ : Nat → Int} {bs base : Nat} {D : va_G} {ws0 : va_W} {s : State}
variable {pc nx : Nat} {lo : q_L} {st : List q_V} {hp : q_H} {iv : q_I} {cl sl : Nat} {z : List q_C × List q_Lf}
theorem q_s_get {x y : Nat} (row : ∀ (ws : va_W) (tys : List (ClassId × FieldType)) (H : Heap) (locs : List Loc) (ls : Array Slot) (r : List Value) (k a : Nat) (fs : List Value) (V : Value), va_K D cl9 tys s → va_P D cl9 ws H → ws[k]? = some (a, .inr (x, fs)) → fs[y]? = some V → w H locs cl sl nx ls (V :: r) → w H locs cl sl pc ls (.ref a :: r))
    (h : q_oGet x y nx lo st hp iv cl sl = some z) (hz : ∀ c ∈ z.1, q_G w cl9 nL ρ bs base D ws0 s c) : q_G w cl9 nL ρ bs base D ws0 s (pc, lo, st, hp, iv, cl, sl) := by
  intro ho ws tys H locs ls lv sR hK hP hD hS hW hE hL hF hl
  obtain ⟨q, h1, h⟩ := q_bd_i h
  obtain ⟨c, h2, h⟩ := q_bd_i h
  obtain ⟨h3, h⟩ := q_if_i h
  obtain ⟨h4, h5⟩ := q_and_i h3
  obtain ⟨a, h6, h⟩ := q_bd_i h
  cases q_so h
  have e := q_pop_i h1
  rw [e] at hF
  obtain ⟨V, r, rfl, g1, hF1⟩ := q_F2_c hF
  obtain ⟨b, e9, k1, rfl, k3⟩ := q_at_i hW h2 g1
  obtain ⟨kd, n, fs, ar⟩ := c
  have e3 : kd = 0 := q_bq h4
  have e4 : n = x := q_bq h5
  subst e3; subst e4
  obtain ⟨fsR, rfl, hf⟩ := k3
  rw [q_nth_g] at h6
  obtain ⟨V, hv1, hv2⟩ := q_F2_g hf _ _ h6
  exact row ws tys _ _ _ _ _ b fsR V hK hP k1 hv1 (hz _ List.mem_cons_self ho ws tys H locs ls lv _ hK hP hD hS hW hE hL ⟨q_conc_rv ho hv2, hF1⟩ hl)
theorem q_s_put {x y t : Nat} {S : Value → Prop} (hfit : ∀ ws v V, q_fit t v = true → q_rv ρ bs ws v V → S V)
    (row : ∀ (ws : va_W) (tys : List (ClassId × FieldType)) (H : Heap) (locs : List Loc) (ls : Array Slot) (r : List Value) (k a : Nat) (fs : List Value) (V : Value), va_K D cl9 tys s → va_P D cl9 ws H → va_D (q_A base) ws → va_S (q_A base) s.heap H locs → ws[k]? = some (a, .inr (x, fs)) → y < fs.length → S V →
      (∀ H1 locs1, va_P D cl9 (ws.set k (a, .inr (x, fs.set y V))) H1 → va_D (q_A base) (ws.set k (a, .inr (x, fs.set y V))) → va_S (q_A base) s.heap H1 locs1 → w H1 locs1 cl sl nx ls r) → w H locs cl sl pc ls (V :: .ref a :: r))
    (h : q_oPut x y t nx lo st hp iv cl sl = some z) (hz : ∀ c ∈ z.1, q_G w cl9 nL ρ bs base D ws0 s c) : q_G w cl9 nL ρ bs base D ws0 s (pc, lo, st, hp, iv, cl, sl) := by
  intro ho ws tys H locs ls lv sR hK hP hD hS hW hE hL hF hl
  obtain ⟨q, h1, h⟩ := q_bd_i h
  obtain ⟨q2, h2, h⟩ := q_bd_i h
  obtain ⟨c, h3, h⟩ := q_bd_i h
  obtain ⟨h4, h⟩ := q_if_i h
  obtain ⟨h5, h6⟩ := q_and_i h4
  obtain ⟨h7, h8⟩ := q_and_i h6
  obtain ⟨h9, h10⟩ := q_and_i h8
  cases q_so h
  have e := q_pop_i h1
  have e2 := q_pop_i h2
  rw [e, e2] at hF
  obtain ⟨V, r, rfl, g1, hF1⟩ := q_F2_c hF
  obtain ⟨V2, r2, rfl, g2, hF2⟩ := q_F2_c hF1
  obtain ⟨b, e9, k1, rfl, k3⟩ := q_at_i hW h3 g2
  obtain ⟨kd, n, fs, ar⟩ := c
  have e3 : kd = 0 := q_bq h5
  have e4 : n = x := q_bq h7
  subst e3; subst e4
  obtain ⟨fsR, rfl, hf⟩ := k3
  have hlen : y < fsR.length := by
    have := q_bl h10
    rw [q_len_g, q_F2_l hf] at this
    exact this
  refine row ws tys _ _ _ _ _ b fsR V hK hP hD hS k1 hlen (hfit ws _ V h9 g1) (fun H1 locs1 hP1 hD1 hS1 => ?_)
  have hex : q_Ex ws (ws.set q2.1.2.toNat (b, .inr (n, fsR.set y V))) := q_Ex.st k1
  refine hz _ List.mem_cons_self ho _ tys H1 locs1 ls lv _ hK hP1 hD1 hS1 (hW.put k1 ⟨_, rfl, ?_⟩) (hE.tr hex) (q_F2_m (fun a b h => ⟨h.1, h.2.ex hex⟩) hL) (q_F2_m (fun a b h => h.ex hex) hF2) hl
  show q_F2 _ (q_up fs y q.1) _
  rw [q_up_g]
  exact q_F2_s (q_F2_m (fun a b h => h.ex hex) hf) y _ _ (g1.ex hex)
theorem q_s_new {x mc ms : Nat} {fs : List q_V} {fsR : List Value} (hfs : ∀ ws, q_F2 (q_rv ρ bs ws) fs fsR)
    (row : ∀ (ws : va_W) (tys : List (ClassId × FieldType)) (H : Heap) (locs : List Loc) (ls : Array Slot) (r : List Value), va_K D cl9 tys s → va_P D cl9 ws H → va_D (q_A base) ws → va_S (q_A base) s.heap H locs → cl + 1 ≤ mc → sl + fs.length ≤ ms →
      (∀ q H1, va_P D cl9 (ws ++ [(q, .inr (x, fsR))]) H1 → va_D (q_A base) (ws ++ [(q, .inr (x, fsR))]) → va_S (q_A base) s.heap H1 locs → w H1 locs (cl + 1) (sl + fs.length) nx ls (.ref q :: r)) → w H locs cl sl pc ls r)
    (h : q_oNew x fs mc ms nx lo st hp iv cl sl = some z) (hz : ∀ c ∈ z.1, q_G w cl9 nL ρ bs base D ws0 s c) : q_G w cl9 nL ρ bs base D ws0 s (pc, lo, st, hp, iv, cl, sl) := by
  intro ho ws tys H locs ls lv sR hK hP hD hS hW hE hL hF hl
  obtain ⟨h1, h⟩ := q_if_i h
  obtain ⟨h2, h3⟩ := q_and_i h1
  obtain ⟨h4, h5⟩ := q_and_i h3
  cases q_so h
  have h4' : sl + q_len fs ≤ ms := q_bl h4
  rw [q_len_g] at h4'
  refine row ws tys _ _ _ _ hK hP hD hS (q_bl h2) h4' (fun q H1 hP1 hD1 hS1 => ?_)
  have hex : q_Ex ws (ws ++ [(q, .inr (x, fsR))]) := q_Ex.pu ws _
  have hm := hz _ List.mem_cons_self ho (ws ++ [(q, .inr (x, fsR))]) tys H1 locs ls lv (.ref q :: sR) hK hP1 hD1 hS1 (hW.new (q_bl h5) (fun _ _ h => h) ⟨_, rfl, hfs _⟩) (hE.tr hex) (q_F2_m (fun a b h => ⟨h.1, h.2.ex hex⟩) hL) ⟨⟨(q, .inr (x, fsR)), ?_, rfl⟩, q_F2_m (fun a b h => h.ex hex) hF⟩ hl
  · have e : Nat.add sl (q_len fs) = sl + fs.length := by rw [q_len_g]; rfl
    rw [← e]
    exact hm
  · show (ws ++ [(q, _)])[(Int.ofNat hp.1).toNat]? = _
    rw [show (Int.ofNat hp.1).toNat = ws.length from hW.1.symm, List.getElem?_append_right (Nat.le_refl _), Nat.sub_self]
    rfl
theorem q_s_nwa {k mc ms : Nat} {v0 : q_V} {ty : FieldType} {c0 : Nat → va_E → Prop} (hrc : ∀ (ws : va_W) (tys : List (ClassId × FieldType)) (N : Nat) (e : va_E) (t : Nat), N ≤ 2000 → c0 N e → (∀ cA x, e = .inl (cA, x) → tys[t]? = some (cA, ty)) → q_rc ρ bs ws tys (k, N, [], q_mk v0 11) e)
    (row : ∀ (ws : va_W) (tys : List (ClassId × FieldType)) (H : Heap) (locs : List Loc) (ls : Array Slot) (r : List Value) (n : Int32), va_K D cl9 tys s → va_P D cl9 ws H → va_D (q_A base) ws → va_S (q_A base) s.heap H locs → 0 ≤ n.toInt → n.toInt ≤ 2000 → cl + 1 ≤ mc → sl + n.toInt.toNat ≤ ms →
      (∀ q cA a0 H1, c0 n.toInt.toNat (.inl (cA, a0)) → va_K D cl9 (tys ++ [(cA, ty)]) s → va_P D cl9 (ws ++ [(q, .inl (cA, a0))]) H1 → va_D (q_A base) (ws ++ [(q, .inl (cA, a0))]) → va_S (q_A base) s.heap H1 locs → w H1 locs (cl + 1) (sl + n.toInt.toNat) nx ls (.ref q :: r)) → w H locs cl sl pc ls (.int n :: r))
    (h : q_oNwa k v0 mc ms nx lo st hp iv cl sl = some z) (hz : ∀ c ∈ z.1, q_G w cl9 nL ρ bs base D ws0 s c) : q_G w cl9 nL ρ bs base D ws0 s (pc, lo, st, hp, iv, cl, sl) := by
  intro ho ws tys H locs ls lv sR hK hP hD hS hW hE hL hF hl
  obtain ⟨q, h1, h⟩ := q_bd_i h
  obtain ⟨h2, h⟩ := q_if_i h
  obtain ⟨h3, h4⟩ := q_and_i h2
  obtain ⟨h5, h6⟩ := q_and_i h4
  obtain ⟨h7, h8⟩ := q_and_i h6
  obtain ⟨h9, h10⟩ := q_and_i h8
  obtain ⟨h11, h12⟩ := q_and_i h10
  cases q_so h
  have e := q_pop_i h1
  rw [e] at hF
  obtain ⟨V, r, rfl, g1, hF1⟩ := q_F2_c hF
  obtain ⟨⟨t, b⟩, q9⟩ := q
  have e3 : t = 0 := q_bq h3
  subst e3
  have e5 : V = .int (Int32.ofInt b) := g1
  subst e5
  have hi5 := q_ile_i h5
  have hi7 := q_ile_i h7
  have hi11 : sl + (q_w32 b).toNat ≤ ms := q_bl h11
  dsimp only at hi5 hi7
  refine row ws tys _ _ _ _ (Int32.ofInt b) hK hP hD hS (by rw [q_w32_m]; exact hi5) (by rw [q_w32_m]; exact hi7) (q_bl h9) (by rw [q_w32_m]; exact hi11) (fun q cA a0 H1 hc0 hK1 hP1 hD1 hS1 => ?_)
  rw [q_w32_m] at hc0 ⊢
  have hex : q_Ex ws (ws ++ [(q, .inl (cA, a0))]) := q_Ex.pu ws _
  have hty : q_Et tys (tys ++ [(cA, ty)]) := fun t x hx => by
    have hl := (List.getElem?_eq_some_iff.mp hx).1
    rw [List.getElem?_append_left hl]; exact hx
  refine hz _ List.mem_cons_self ho (ws ++ [(q, .inl (cA, a0))]) (tys ++ [(cA, ty)]) H1 locs ls lv (.ref q :: r) hK1 hP1 hD1 hS1 (hW.new (q_bl h12) hty (hrc _ _ _ _ tys.length (by dsimp only; omega) hc0 (fun cB x hx => ?_))) (hE.tr hex) (q_F2_m (fun a b h => ⟨h.1, h.2.ex hex⟩) hL) ⟨⟨(q, .inl (cA, a0)), ?_, rfl⟩, q_F2_m (fun a b h => h.ex hex) hF1⟩ hl
  · have hx2 := Sum.inl.inj hx
    rw [← (Prod.mk.inj hx2).1, List.getElem?_append_right (Nat.le_refl _), Nat.sub_self]
    rfl
  · show (ws ++ [(q, _)])[(Int.ofNat hp.1).toNat]? = _
    rw [show (Int.ofNat hp.1).toNat = ws.length from hW.1.symm, List.getElem?_append_right (Nat.le_refl _), Nat.sub_self]
    rfl
theorem q_s_len {sL : Nat} (rowS : ∀ H locs ls r, va_S (q_A base) s.heap H locs → w H locs cl sl nx ls (.int (Int32.ofInt (Int.ofNat sL)) :: r) → w H locs cl sl pc ls (.ref bs :: r))
    (row : ∀ (ws : va_W) (tys : List (ClassId × FieldType)) (H : Heap) (locs : List Loc) (ls : Array Slot) (r : List Value) (k a : Nat) (cA : ClassId) (x : vp_A) (t : Nat) (ty : FieldType), va_K D cl9 tys s → va_P D cl9 ws H → ws[k]? = some (a, .inl (cA, x)) → tys[t]? = some (cA, ty) → w H locs cl sl nx ls (.int (Int32.ofInt (Int.ofNat x.1)) :: r) → w H locs cl sl pc ls (.ref a :: r))
    (h : q_oLen sL nx lo st hp iv cl sl = some z) (hz : ∀ c ∈ z.1, q_G w cl9 nL ρ bs base D ws0 s c) : q_G w cl9 nL ρ bs base D ws0 s (pc, lo, st, hp, iv, cl, sl) := by
  intro ho ws tys H locs ls lv sR hK hP hD hS hW hE hL hF hl
  obtain ⟨q, h1, h⟩ := q_bd_i h
  have e := q_pop_i h1
  rw [e] at hF
  obtain ⟨V, r, rfl, g1, hF1⟩ := q_F2_c hF
  cases hb : Nat.beq q.1.1 9 with
  | true =>
    rw [hb] at h
    cases q_so h
    obtain ⟨⟨t, b⟩, q9⟩ := q
    have e3 : t = 9 := q_bq hb
    subst e3
    have e5 : V = .ref bs := g1
    subst e5
    exact rowS _ _ _ _ hS (hz _ List.mem_cons_self ho ws tys H locs ls lv _ hK hP hD hS hW hE hL ⟨rfl, hF1⟩ hl)
  | false =>
    rw [hb] at h
    obtain ⟨c, h2, h⟩ := q_bd_i h
    obtain ⟨h3, h⟩ := q_if_i h
    cases q_so h
    obtain ⟨b, e9, k1, rfl, k3⟩ := q_at_i hW h2 g1
    obtain ⟨kd, n, fs, ar⟩ := c
    have h3 : 1 ≤ kd := q_bl h3
    match kd, k3, h3 with
    | 1, k3, _ =>
      obtain ⟨-, cA, t, f, rfl, ht, -⟩ := k3
      exact row ws tys _ _ _ _ _ _ cA _ t _ hK hP k1 ht (hz _ List.mem_cons_self ho ws tys H locs ls lv _ hK hP hD hS hW hE hL ⟨rfl, hF1⟩ hl)
    | 2, k3, _ =>
      obtain ⟨-, cA, t, f, rfl, ht, -⟩ := k3
      exact row ws tys _ _ _ _ _ _ cA _ t _ hK hP k1 ht (hz _ List.mem_cons_self ho ws tys H locs ls lv _ hK hP hD hS hW hE hL ⟨rfl, hF1⟩ hl)
    | 3, k3, _ =>
      obtain ⟨-, cA, t, f, rfl, ht, -⟩ := k3
      exact row ws tys _ _ _ _ _ _ cA _ t _ hK hP k1 ht (hz _ List.mem_cons_self ho ws tys H locs ls lv _ hK hP hD hS hW hE hL ⟨rfl, hF1⟩ hl)
    | 4, k3, _ =>
      obtain ⟨-, cA, t, f, rfl, ht, -⟩ := k3
      exact row ws tys _ _ _ _ _ _ cA _ t _ hK hP k1 ht (hz _ List.mem_cons_self ho ws tys H locs ls lv _ hK hP hD hS hW hE hL ⟨rfl, hF1⟩ hl)
    | 5, k3, _ =>
      obtain ⟨-, cA, t, f, rfl, ht, -⟩ := k3
      exact row ws tys _ _ _ _ _ _ cA _ t _ hK hP k1 ht (hz _ List.mem_cons_self ho ws tys H locs ls lv _ hK hP hD hS hW hE hL ⟨rfl, hF1⟩ hl)
    | kd + 6, k3, _ => exact absurd k3 id
theorem q_s_ald1 {sL : Nat} (hr : q_rg ρ) (rowS : ∀ H locs ls r (i : Int32), va_S (q_A base) s.heap H locs → vp_in i sL → w H locs cl sl nx ls (.int (Int32.ofInt (ρ i.toNatClampNeg)) :: r) → w H locs cl sl pc ls (.int i :: .ref bs :: r))
    (row : ∀ (ws : va_W) (tys : List (ClassId × FieldType)) (H : Heap) (locs : List Loc) (ls : Array Slot) (r : List Value) (k a : Nat) (cA : ClassId) (n t : Nat) (f : Nat → Int32) (i : Int32), va_K D cl9 tys s → va_P D cl9 ws H → ws[k]? = some (a, .inl (cA, n, .inl f)) → tys[t]? = some (cA, .int) → vp_in i n → w H locs cl sl nx ls (.int (f i.toNatClampNeg) :: r) → w H locs cl sl pc ls (.int i :: .ref a :: r))
    (h : q_oAld 1 sL nx lo st hp iv cl sl = some z) (hz : ∀ c ∈ z.1, q_G w cl9 nL ρ bs base D ws0 s c) : q_G w cl9 nL ρ bs base D ws0 s (pc, lo, st, hp, iv, cl, sl) := by
  intro ho ws tys H locs ls lv sR hK hP hD hS hW hE hL hF hl
  obtain ⟨q, h1, h⟩ := q_bd_i h
  obtain ⟨q2, h2, h⟩ := q_bd_i h
  have e := q_pop_i h1
  have e2 := q_pop_i h2
  rw [e, e2] at hF
  obtain ⟨V, r, rfl, g1, hF1⟩ := q_F2_c hF
  obtain ⟨V2, r2, rfl, g2, hF2⟩ := q_F2_c hF1
  cases hb : Nat.beq q2.1.1 9 with
  | true =>
    rw [hb] at h
    obtain ⟨h3, h⟩ := q_if_i h
    obtain ⟨-, h4⟩ := q_and_i h3
    obtain ⟨h5, h6⟩ := q_and_i h4
    cases q_so h
    obtain ⟨⟨t, b⟩, q9⟩ := q
    obtain ⟨⟨u, a⟩, q8⟩ := q2
    have e3 : u = 9 := q_bq hb
    have e4 : t = 0 := q_bq h5
    subst e3; subst e4
    have e5 : V = .int (Int32.ofInt b) := g1
    have e6 : V2 = .ref bs := g2
    subst e5; subst e6
    obtain ⟨i1, i2, i3⟩ := q_ix (q_w32_m b) h6
    exact rowS _ _ _ _ _ hS i1 (hz _ List.mem_cons_self ho ws tys H locs ls lv _ hK hP hD hS hW hE hL ⟨q_conc_rv ho (show Value.int _ = .int (Int32.ofInt (ρ (q_w32 b).toNat)) by rw [i2]), hF2⟩ hl)
  | false =>
    rw [hb] at h
    obtain ⟨c, h3, h⟩ := q_bd_i h
    obtain ⟨h4, h⟩ := q_if_i h
    obtain ⟨l, h5, h⟩ := q_bd_i h
    obtain ⟨cs, h6, h⟩ := q_bd_i h
    cases q_so h
    obtain ⟨b, e9, k1, rfl, k3⟩ := q_at_i hW h3 g2
    obtain ⟨kd, n, fs, ar⟩ := c
    have e3 : kd = 1 := q_bq h4
    subst e3
    obtain ⟨hn, cA, t, f, rfl, ht, hel⟩ := k3
    obtain ⟨x, rfl, q3, h7, h8, h9⟩ := q_enum_s hr ho h5 g1
    obtain ⟨c1, h10, h11⟩ := q_all_i h6 q3 h7
    obtain ⟨h12, h13⟩ := q_if_i h11
    obtain ⟨i1, i2, i3⟩ := q_ix h9 h12
    have hm := hz c1 h10
    cases q_so h13
    refine row ws tys _ _ _ _ _ _ cA n t f x hK hP k1 ht i1 (hm h8 ws tys H locs ls lv _ hK hP hD hS hW hE hL ⟨q_conc_rv h8 ?_, hF2⟩ hl)
    rw [i2]
    exact hel _ i3
theorem q_s_ald3 {sL : Nat} (hr : q_rg ρ) (rowS : True)
    (row : ∀ (ws : va_W) (tys : List (ClassId × FieldType)) (H : Heap) (locs : List Loc) (ls : Array Slot) (r : List Value) (k a : Nat) (cA : ClassId) (n t : Nat) (f : Nat → Int64) (i : Int32), va_K D cl9 tys s → va_P D cl9 ws H → ws[k]? = some (a, .inl (cA, n, .inr (.inl f))) → tys[t]? = some (cA, .long) → vp_in i n → w H locs cl sl nx ls (.long (f i.toNatClampNeg) :: r) → w H locs cl sl pc ls (.int i :: .ref a :: r))
    (h : q_oAld 3 sL nx lo st hp iv cl sl = some z) (hz : ∀ c ∈ z.1, q_G w cl9 nL ρ bs base D ws0 s c) : q_G w cl9 nL ρ bs base D ws0 s (pc, lo, st, hp, iv, cl, sl) := by
  intro ho ws tys H locs ls lv sR hK hP hD hS hW hE hL hF hl
  obtain ⟨q, h1, h⟩ := q_bd_i h
  obtain ⟨q2, h2, h⟩ := q_bd_i h
  have e := q_pop_i h1
  have e2 := q_pop_i h2
  rw [e, e2] at hF
  obtain ⟨V, r, rfl, g1, hF1⟩ := q_F2_c hF
  obtain ⟨V2, r2, rfl, g2, hF2⟩ := q_F2_c hF1
  cases hb : Nat.beq q2.1.1 9 with
  | true =>
    rw [hb] at h
    cases (show (none : q_O) = some z from h)
  | false =>
    rw [hb] at h
    obtain ⟨c, h3, h⟩ := q_bd_i h
    obtain ⟨h4, h⟩ := q_if_i h
    obtain ⟨l, h5, h⟩ := q_bd_i h
    obtain ⟨cs, h6, h⟩ := q_bd_i h
    cases q_so h
    obtain ⟨b, e9, k1, rfl, k3⟩ := q_at_i hW h3 g2
    obtain ⟨kd, n, fs, ar⟩ := c
    have e3 : kd = 3 := q_bq h4
    subst e3
    obtain ⟨hn, cA, t, f, rfl, ht, hel⟩ := k3
    obtain ⟨x, rfl, q3, h7, h8, h9⟩ := q_enum_s hr ho h5 g1
    obtain ⟨c1, h10, h11⟩ := q_all_i h6 q3 h7
    obtain ⟨h12, h13⟩ := q_if_i h11
    obtain ⟨i1, i2, i3⟩ := q_ix h9 h12
    have hm := hz c1 h10
    cases q_so h13
    refine row ws tys _ _ _ _ _ _ cA n t f x hK hP k1 ht i1 (hm h8 ws tys H locs ls lv _ hK hP hD hS hW hE hL ⟨q_conc_rv h8 ?_, hF2⟩ hl)
    rw [i2]
    exact hel _ i3
theorem q_s_ald4 {sL : Nat} (hr : q_rg ρ) (rowS : True)
    (row : ∀ (ws : va_W) (tys : List (ClassId × FieldType)) (H : Heap) (locs : List Loc) (ls : Array Slot) (r : List Value) (k a : Nat) (cA : ClassId) (n t : Nat) (f : Nat → UInt64) (i : Int32), va_K D cl9 tys s → va_P D cl9 ws H → ws[k]? = some (a, .inl (cA, n, .inr (.inr (.inr (.inl f))))) → tys[t]? = some (cA, .double) → vp_in i n → w H locs cl sl nx ls (.double (f i.toNatClampNeg) :: r) → w H locs cl sl pc ls (.int i :: .ref a :: r))
    (h : q_oAld 4 sL nx lo st hp iv cl sl = some z) (hz : ∀ c ∈ z.1, q_G w cl9 nL ρ bs base D ws0 s c) : q_G w cl9 nL ρ bs base D ws0 s (pc, lo, st, hp, iv, cl, sl) := by
  intro ho ws tys H locs ls lv sR hK hP hD hS hW hE hL hF hl
  obtain ⟨q, h1, h⟩ := q_bd_i h
  obtain ⟨q2, h2, h⟩ := q_bd_i h
  have e := q_pop_i h1
  have e2 := q_pop_i h2
  rw [e, e2] at hF
  obtain ⟨V, r, rfl, g1, hF1⟩ := q_F2_c hF
  obtain ⟨V2, r2, rfl, g2, hF2⟩ := q_F2_c hF1
  cases hb : Nat.beq q2.1.1 9 with
  | true =>
    rw [hb] at h
    cases (show (none : q_O) = some z from h)
  | false =>
    rw [hb] at h
    obtain ⟨c, h3, h⟩ := q_bd_i h
    obtain ⟨h4, h⟩ := q_if_i h
    obtain ⟨l, h5, h⟩ := q_bd_i h
    obtain ⟨cs, h6, h⟩ := q_bd_i h
    cases q_so h
    obtain ⟨b, e9, k1, rfl, k3⟩ := q_at_i hW h3 g2
    obtain ⟨kd, n, fs, ar⟩ := c
    have e3 : kd = 4 := q_bq h4
    subst e3
    obtain ⟨hn, cA, t, f, rfl, ht, hel⟩ := k3
    obtain ⟨x, rfl, q3, h7, h8, h9⟩ := q_enum_s hr ho h5 g1
    obtain ⟨c1, h10, h11⟩ := q_all_i h6 q3 h7
    obtain ⟨h12, h13⟩ := q_if_i h11
    obtain ⟨i1, i2, i3⟩ := q_ix h9 h12
    have hm := hz c1 h10
    cases q_so h13
    refine row ws tys _ _ _ _ _ _ cA n t f x hK hP k1 ht i1 (hm h8 ws tys H locs ls lv _ hK hP hD hS hW hE hL ⟨q_conc_rv h8 ?_, hF2⟩ hl)
    rw [i2]
    exact hel _ i3
theorem q_s_ald5 {sL : Nat} (hr : q_rg ρ) (rowS : True)
    (row : ∀ (ws : va_W) (tys : List (ClassId × FieldType)) (H : Heap) (locs : List Loc) (ls : Array Slot) (r : List Value) (k a : Nat) (cA : ClassId) (n t : Nat) (f : Nat → Option Nat) (i : Int32), va_K D cl9 tys s → va_P D cl9 ws H → ws[k]? = some (a, .inl (cA, n, .inr (.inr (.inr (.inr f))))) → tys[t]? = some (cA, .object q_tbl) → vp_in i n → w H locs cl sl nx ls (va_rf (f i.toNatClampNeg) :: r) → w H locs cl sl pc ls (.int i :: .ref a :: r))
    (h : q_oAld 5 sL nx lo st hp iv cl sl = some z) (hz : ∀ c ∈ z.1, q_G w cl9 nL ρ bs base D ws0 s c) : q_G w cl9 nL ρ bs base D ws0 s (pc, lo, st, hp, iv, cl, sl) := by
  intro ho ws tys H locs ls lv sR hK hP hD hS hW hE hL hF hl
  obtain ⟨q, h1, h⟩ := q_bd_i h
  obtain ⟨q2, h2, h⟩ := q_bd_i h
  have e := q_pop_i h1
  have e2 := q_pop_i h2
  rw [e, e2] at hF
  obtain ⟨V, r, rfl, g1, hF1⟩ := q_F2_c hF
  obtain ⟨V2, r2, rfl, g2, hF2⟩ := q_F2_c hF1
  cases hb : Nat.beq q2.1.1 9 with
  | true =>
    rw [hb] at h
    cases (show (none : q_O) = some z from h)
  | false =>
    rw [hb] at h
    obtain ⟨c, h3, h⟩ := q_bd_i h
    obtain ⟨h4, h⟩ := q_if_i h
    obtain ⟨l, h5, h⟩ := q_bd_i h
    obtain ⟨cs, h6, h⟩ := q_bd_i h
    cases q_so h
    obtain ⟨b, e9, k1, rfl, k3⟩ := q_at_i hW h3 g2
    obtain ⟨kd, n, fs, ar⟩ := c
    have e3 : kd = 5 := q_bq h4
    subst e3
    obtain ⟨hn, cA, t, f, rfl, ht, hel⟩ := k3
    obtain ⟨x, rfl, q3, h7, h8, h9⟩ := q_enum_s hr ho h5 g1
    obtain ⟨c1, h10, h11⟩ := q_all_i h6 q3 h7
    obtain ⟨h12, h13⟩ := q_if_i h11
    obtain ⟨i1, i2, i3⟩ := q_ix h9 h12
    have hm := hz c1 h10
    cases q_so h13
    refine row ws tys _ _ _ _ _ _ cA n t f x hK hP k1 ht i1 (hm h8 ws tys H locs ls lv _ hK hP hD hS hW hE hL ⟨q_conc_rv h8 ?_, hF2⟩ hl)
    rw [i2]
    exact hel _ i3
theorem q_s_ast1 (hr : q_rg ρ)
    (row : ∀ (ws : va_W) (tys : List (ClassId × FieldType)) (H : Heap) (locs : List Loc) (ls : Array Slot) (r : List Value) (k a : Nat) (cA : ClassId) (n t : Nat) (f : Nat → Int32) (i : Int32) (x : Int32), va_K D cl9 tys s → va_P D cl9 ws H → va_D (q_A base) ws → va_S (q_A base) s.heap H locs → ws[k]? = some (a, .inl (cA, n, .inl f)) → tys[t]? = some (cA, .int) → vp_in i n →
      (∀ H1 locs1, va_P D cl9 (ws.set k (a, .inl (cA, n, .inl (upd f i.toNatClampNeg x)))) H1 → va_D (q_A base) (ws.set k (a, .inl (cA, n, .inl (upd f i.toNatClampNeg x)))) → va_S (q_A base) s.heap H1 locs1 → w H1 locs1 cl sl nx ls r) → w H locs cl sl pc ls (.int x :: .int i :: .ref a :: r))
    (h : q_oAst 1 nx lo st hp iv cl sl = some z) (hz : ∀ c ∈ z.1, q_G w cl9 nL ρ bs base D ws0 s c) : q_G w cl9 nL ρ bs base D ws0 s (pc, lo, st, hp, iv, cl, sl) := by
  intro ho ws tys H locs ls lv sR hK hP hD hS hW hE hL hF hl
  obtain ⟨v, h0, h⟩ := q_bd_i h
  obtain ⟨wv, hkp, h⟩ := q_bd_i h
  obtain ⟨q, h1, h⟩ := q_bd_i h
  obtain ⟨q2, h2, h⟩ := q_bd_i h
  obtain ⟨c, h3, h⟩ := q_bd_i h
  obtain ⟨h4, h⟩ := q_if_i h
  obtain ⟨l, h5, h⟩ := q_bd_i h
  obtain ⟨cs, h6, h⟩ := q_bd_i h
  cases q_so h
  have e0 := q_pop_i h0
  have e := q_pop_i h1
  have e2 := q_pop_i h2
  rw [e0, e, e2] at hF
  obtain ⟨X, r0, rfl, g0, hF0⟩ := q_F2_c hF
  obtain ⟨V, r, rfl, g1, hF1⟩ := q_F2_c hF0
  obtain ⟨V2, r2, rfl, g2, hF2⟩ := q_F2_c hF1
  obtain ⟨b, e9, k1, rfl, k3⟩ := q_at_i hW h3 g2
  obtain ⟨kd, n, fs, ar⟩ := c
  have e3 : kd = 1 := q_bq h4
  subst e3
  obtain ⟨hn, cA, t, f, rfl, ht, hel⟩ := k3
  obtain ⟨i, rfl, q3, h7, h8, h9⟩ := q_enum_s hr ho h5 g1
  obtain ⟨c1, h10, h11⟩ := q_all_i h6 q3 h7
  obtain ⟨h12, h13⟩ := q_if_i h11
  obtain ⟨i1, i2, i3⟩ := q_ix h9 h12
  have hm := hz c1 h10
  cases q_so h13
  obtain ⟨hk1, hk2⟩ := q_if_i (show q_if (q_isI v.1.1) (some v.1) = some wv from hkp)
  obtain ⟨x, rfl⟩ := q_isI_i hk1 g0
  cases q_so hk2
  refine row ws tys _ _ _ _ _ _ cA n t f i x hK hP hD hS k1 ht i1 (fun H1 locs1 hP1 hD1 hS1 => ?_)
  have hex : q_Ex ws (ws.set q2.1.2.toNat (b, .inl (cA, n, .inl (upd f i.toNatClampNeg x)))) := q_Ex.st k1
  refine hm h8 _ tys H1 locs1 ls lv _ hK hP1 hD1 hS1 (hW.put k1 ⟨hn, cA, t, upd f i.toNatClampNeg x, rfl, ht, fun j hj => ?_⟩) (hE.tr hex) (q_F2_m (fun a b h => ⟨h.1, h.2.ex hex⟩) hL) (q_F2_m (fun a b h => h.ex hex) hF2) hl
  show q_rv ρ bs _ (q_get 11 (q_set 11 ar q3.1.toNat _) j) _
  have hj : j < n := hj
  have hi3 : q3.1.toNat < n := i3
  have hnn : n ≤ 2000 := hn
  rw [q_gs 11 ar _ j _ (by show _ < 2048; omega) (by show _ < 2048; omega)]
  by_cases ej : j = q3.1.toNat
  · rw [if_pos ej]
    have hu : upd f i.toNatClampNeg x j = x := by unfold upd; rw [if_pos (by rw [i2]; exact ej)]
    rw [hu]
    exact g0.ex hex
  · rw [if_neg ej]
    have hu : upd f i.toNatClampNeg x j = f j := by unfold upd; rw [if_neg (by rw [i2]; exact ej)]
    rw [hu]
    exact (hel j hj).ex hex
theorem q_s_ast2 (hr : q_rg ρ)
    (row : ∀ (ws : va_W) (tys : List (ClassId × FieldType)) (H : Heap) (locs : List Loc) (ls : Array Slot) (r : List Value) (k a : Nat) (cA : ClassId) (n t : Nat) (f : Nat → Int32) (i : Int32) (x : Int32), va_K D cl9 tys s → va_P D cl9 ws H → va_D (q_A base) ws → va_S (q_A base) s.heap H locs → ws[k]? = some (a, .inl (cA, n, .inl f)) → tys[t]? = some (cA, .byte) → vp_in i n →
      (∀ H1 locs1, va_P D cl9 (ws.set k (a, .inl (cA, n, .inl (upd f i.toNatClampNeg (vp_nar .byte x))))) H1 → va_D (q_A base) (ws.set k (a, .inl (cA, n, .inl (upd f i.toNatClampNeg (vp_nar .byte x))))) → va_S (q_A base) s.heap H1 locs1 → w H1 locs1 cl sl nx ls r) → w H locs cl sl pc ls (.int x :: .int i :: .ref a :: r))
    (h : q_oAst 2 nx lo st hp iv cl sl = some z) (hz : ∀ c ∈ z.1, q_G w cl9 nL ρ bs base D ws0 s c) : q_G w cl9 nL ρ bs base D ws0 s (pc, lo, st, hp, iv, cl, sl) := by
  intro ho ws tys H locs ls lv sR hK hP hD hS hW hE hL hF hl
  obtain ⟨v, h0, h⟩ := q_bd_i h
  obtain ⟨wv, hkp, h⟩ := q_bd_i h
  obtain ⟨q, h1, h⟩ := q_bd_i h
  obtain ⟨q2, h2, h⟩ := q_bd_i h
  obtain ⟨c, h3, h⟩ := q_bd_i h
  obtain ⟨h4, h⟩ := q_if_i h
  obtain ⟨l, h5, h⟩ := q_bd_i h
  obtain ⟨cs, h6, h⟩ := q_bd_i h
  cases q_so h
  have e0 := q_pop_i h0
  have e := q_pop_i h1
  have e2 := q_pop_i h2
  rw [e0, e, e2] at hF
  obtain ⟨X, r0, rfl, g0, hF0⟩ := q_F2_c hF
  obtain ⟨V, r, rfl, g1, hF1⟩ := q_F2_c hF0
  obtain ⟨V2, r2, rfl, g2, hF2⟩ := q_F2_c hF1
  obtain ⟨b, e9, k1, rfl, k3⟩ := q_at_i hW h3 g2
  obtain ⟨kd, n, fs, ar⟩ := c
  have e3 : kd = 2 := q_bq h4
  subst e3
  obtain ⟨hn, cA, t, f, rfl, ht, hel⟩ := k3
  obtain ⟨i, rfl, q3, h7, h8, h9⟩ := q_enum_s hr ho h5 g1
  obtain ⟨c1, h10, h11⟩ := q_all_i h6 q3 h7
  obtain ⟨h12, h13⟩ := q_if_i h11
  obtain ⟨i1, i2, i3⟩ := q_ix h9 h12
  have hm := hz c1 h10
  cases q_so h13
  obtain ⟨hk1, hk2⟩ := q_if_i (show q_if (q_isI v.1.1) (some ((8, 0) : q_V)) = some wv from hkp)
  obtain ⟨x, rfl⟩ := q_isI_i hk1 g0
  cases q_so hk2
  refine row ws tys _ _ _ _ _ _ cA n t f i x hK hP hD hS k1 ht i1 (fun H1 locs1 hP1 hD1 hS1 => ?_)
  have hex : q_Ex ws (ws.set q2.1.2.toNat (b, .inl (cA, n, .inl (upd f i.toNatClampNeg (vp_nar .byte x))))) := q_Ex.st k1
  refine hm h8 _ tys H1 locs1 ls lv _ hK hP1 hD1 hS1 (hW.put k1 ⟨hn, cA, t, upd f i.toNatClampNeg (vp_nar .byte x), rfl, ht, fun j hj => ?_⟩) (hE.tr hex) (q_F2_m (fun a b h => ⟨h.1, h.2.ex hex⟩) hL) (q_F2_m (fun a b h => h.ex hex) hF2) hl
  show q_rv ρ bs _ (q_get 11 (q_set 11 ar q3.1.toNat _) j) _
  have hj : j < n := hj
  have hi3 : q3.1.toNat < n := i3
  have hnn : n ≤ 2000 := hn
  rw [q_gs 11 ar _ j _ (by show _ < 2048; omega) (by show _ < 2048; omega)]
  by_cases ej : j = q3.1.toNat
  · rw [if_pos ej]
    have hu : upd f i.toNatClampNeg (vp_nar .byte x) j = vp_nar .byte x := by unfold upd; rw [if_pos (by rw [i2]; exact ej)]
    rw [hu]
    exact ⟨_, rfl⟩
  · rw [if_neg ej]
    have hu : upd f i.toNatClampNeg (vp_nar .byte x) j = f j := by unfold upd; rw [if_neg (by rw [i2]; exact ej)]
    rw [hu]
    exact (hel j hj).ex hex
theorem q_s_ast3 (hr : q_rg ρ)
    (row : ∀ (ws : va_W) (tys : List (ClassId × FieldType)) (H : Heap) (locs : List Loc) (ls : Array Slot) (r : List Value) (k a : Nat) (cA : ClassId) (n t : Nat) (f : Nat → Int64) (i : Int32) (x : Int64), va_K D cl9 tys s → va_P D cl9 ws H → va_D (q_A base) ws → va_S (q_A base) s.heap H locs → ws[k]? = some (a, .inl (cA, n, .inr (.inl f))) → tys[t]? = some (cA, .long) → vp_in i n →
      (∀ H1 locs1, va_P D cl9 (ws.set k (a, .inl (cA, n, .inr (.inl (vp_updL f i.toNatClampNeg x))))) H1 → va_D (q_A base) (ws.set k (a, .inl (cA, n, .inr (.inl (vp_updL f i.toNatClampNeg x))))) → va_S (q_A base) s.heap H1 locs1 → w H1 locs1 cl sl nx ls r) → w H locs cl sl pc ls (.long x :: .int i :: .ref a :: r))
    (h : q_oAst 3 nx lo st hp iv cl sl = some z) (hz : ∀ c ∈ z.1, q_G w cl9 nL ρ bs base D ws0 s c) : q_G w cl9 nL ρ bs base D ws0 s (pc, lo, st, hp, iv, cl, sl) := by
  intro ho ws tys H locs ls lv sR hK hP hD hS hW hE hL hF hl
  obtain ⟨v, h0, h⟩ := q_bd_i h
  obtain ⟨wv, hkp, h⟩ := q_bd_i h
  obtain ⟨q, h1, h⟩ := q_bd_i h
  obtain ⟨q2, h2, h⟩ := q_bd_i h
  obtain ⟨c, h3, h⟩ := q_bd_i h
  obtain ⟨h4, h⟩ := q_if_i h
  obtain ⟨l, h5, h⟩ := q_bd_i h
  obtain ⟨cs, h6, h⟩ := q_bd_i h
  cases q_so h
  have e0 := q_pop_i h0
  have e := q_pop_i h1
  have e2 := q_pop_i h2
  rw [e0, e, e2] at hF
  obtain ⟨X, r0, rfl, g0, hF0⟩ := q_F2_c hF
  obtain ⟨V, r, rfl, g1, hF1⟩ := q_F2_c hF0
  obtain ⟨V2, r2, rfl, g2, hF2⟩ := q_F2_c hF1
  obtain ⟨b, e9, k1, rfl, k3⟩ := q_at_i hW h3 g2
  obtain ⟨kd, n, fs, ar⟩ := c
  have e3 : kd = 3 := q_bq h4
  subst e3
  obtain ⟨hn, cA, t, f, rfl, ht, hel⟩ := k3
  obtain ⟨i, rfl, q3, h7, h8, h9⟩ := q_enum_s hr ho h5 g1
  obtain ⟨c1, h10, h11⟩ := q_all_i h6 q3 h7
  obtain ⟨h12, h13⟩ := q_if_i h11
  obtain ⟨i1, i2, i3⟩ := q_ix h9 h12
  have hm := hz c1 h10
  cases q_so h13
  obtain ⟨hk1, hk2⟩ := q_if_i (show q_if (q_isJ v.1.1) (some v.1) = some wv from hkp)
  obtain ⟨x, rfl⟩ := q_isJ_i hk1 g0
  cases q_so hk2
  refine row ws tys _ _ _ _ _ _ cA n t f i x hK hP hD hS k1 ht i1 (fun H1 locs1 hP1 hD1 hS1 => ?_)
  have hex : q_Ex ws (ws.set q2.1.2.toNat (b, .inl (cA, n, .inr (.inl (vp_updL f i.toNatClampNeg x))))) := q_Ex.st k1
  refine hm h8 _ tys H1 locs1 ls lv _ hK hP1 hD1 hS1 (hW.put k1 ⟨hn, cA, t, vp_updL f i.toNatClampNeg x, rfl, ht, fun j hj => ?_⟩) (hE.tr hex) (q_F2_m (fun a b h => ⟨h.1, h.2.ex hex⟩) hL) (q_F2_m (fun a b h => h.ex hex) hF2) hl
  show q_rv ρ bs _ (q_get 11 (q_set 11 ar q3.1.toNat _) j) _
  have hj : j < n := hj
  have hi3 : q3.1.toNat < n := i3
  have hnn : n ≤ 2000 := hn
  rw [q_gs 11 ar _ j _ (by show _ < 2048; omega) (by show _ < 2048; omega)]
  by_cases ej : j = q3.1.toNat
  · rw [if_pos ej]
    have hu : vp_updL f i.toNatClampNeg x j = x := by unfold vp_updL; rw [if_pos (by rw [i2]; exact ej)]
    rw [hu]
    exact g0.ex hex
  · rw [if_neg ej]
    have hu : vp_updL f i.toNatClampNeg x j = f j := by unfold vp_updL; rw [if_neg (by rw [i2]; exact ej)]
    rw [hu]
    exact (hel j hj).ex hex
theorem q_s_ast4 (hr : q_rg ρ)
    (row : ∀ (ws : va_W) (tys : List (ClassId × FieldType)) (H : Heap) (locs : List Loc) (ls : Array Slot) (r : List Value) (k a : Nat) (cA : ClassId) (n t : Nat) (f : Nat → UInt64) (i : Int32) (x : UInt64), va_K D cl9 tys s → va_P D cl9 ws H → va_D (q_A base) ws → va_S (q_A base) s.heap H locs → ws[k]? = some (a, .inl (cA, n, .inr (.inr (.inr (.inl f))))) → tys[t]? = some (cA, .double) → vp_in i n →
      (∀ H1 locs1, va_P D cl9 (ws.set k (a, .inl (cA, n, .inr (.inr (.inr (.inl (vf_upd f i.toNatClampNeg x))))))) H1 → va_D (q_A base) (ws.set k (a, .inl (cA, n, .inr (.inr (.inr (.inl (vf_upd f i.toNatClampNeg x))))))) → va_S (q_A base) s.heap H1 locs1 → w H1 locs1 cl sl nx ls r) → w H locs cl sl pc ls (.double x :: .int i :: .ref a :: r))
    (h : q_oAst 4 nx lo st hp iv cl sl = some z) (hz : ∀ c ∈ z.1, q_G w cl9 nL ρ bs base D ws0 s c) : q_G w cl9 nL ρ bs base D ws0 s (pc, lo, st, hp, iv, cl, sl) := by
  intro ho ws tys H locs ls lv sR hK hP hD hS hW hE hL hF hl
  obtain ⟨v, h0, h⟩ := q_bd_i h
  obtain ⟨wv, hkp, h⟩ := q_bd_i h
  obtain ⟨q, h1, h⟩ := q_bd_i h
  obtain ⟨q2, h2, h⟩ := q_bd_i h
  obtain ⟨c, h3, h⟩ := q_bd_i h
  obtain ⟨h4, h⟩ := q_if_i h
  obtain ⟨l, h5, h⟩ := q_bd_i h
  obtain ⟨cs, h6, h⟩ := q_bd_i h
  cases q_so h
  have e0 := q_pop_i h0
  have e := q_pop_i h1
  have e2 := q_pop_i h2
  rw [e0, e, e2] at hF
  obtain ⟨X, r0, rfl, g0, hF0⟩ := q_F2_c hF
  obtain ⟨V, r, rfl, g1, hF1⟩ := q_F2_c hF0
  obtain ⟨V2, r2, rfl, g2, hF2⟩ := q_F2_c hF1
  obtain ⟨b, e9, k1, rfl, k3⟩ := q_at_i hW h3 g2
  obtain ⟨kd, n, fs, ar⟩ := c
  have e3 : kd = 4 := q_bq h4
  subst e3
  obtain ⟨hn, cA, t, f, rfl, ht, hel⟩ := k3
  obtain ⟨i, rfl, q3, h7, h8, h9⟩ := q_enum_s hr ho h5 g1
  obtain ⟨c1, h10, h11⟩ := q_all_i h6 q3 h7
  obtain ⟨h12, h13⟩ := q_if_i h11
  obtain ⟨i1, i2, i3⟩ := q_ix h9 h12
  have hm := hz c1 h10
  cases q_so h13
  obtain ⟨hk1, hk2⟩ := q_if_i (show q_if (Nat.beq v.1.1 5) (some v.1) = some wv from hkp)
  obtain ⟨⟨tt, vv⟩, v9⟩ := v
  have e8 : tt = 5 := q_bq hk1
  subst e8
  have e7 : X = .double (UInt64.ofNat vv.toNat) := g0
  obtain ⟨x, hx⟩ : ∃ x, x = UInt64.ofNat vv.toNat := ⟨_, rfl⟩
  rw [← hx] at e7
  subst e7
  cases q_so hk2
  refine row ws tys _ _ _ _ _ _ cA n t f i x hK hP hD hS k1 ht i1 (fun H1 locs1 hP1 hD1 hS1 => ?_)
  have hex : q_Ex ws (ws.set q2.1.2.toNat (b, .inl (cA, n, .inr (.inr (.inr (.inl (vf_upd f i.toNatClampNeg x))))))) := q_Ex.st k1
  refine hm h8 _ tys H1 locs1 ls lv _ hK hP1 hD1 hS1 (hW.put k1 ⟨hn, cA, t, vf_upd f i.toNatClampNeg x, rfl, ht, fun j hj => ?_⟩) (hE.tr hex) (q_F2_m (fun a b h => ⟨h.1, h.2.ex hex⟩) hL) (q_F2_m (fun a b h => h.ex hex) hF2) hl
  show q_rv ρ bs _ (q_get 11 (q_set 11 ar q3.1.toNat _) j) _
  have hj : j < n := hj
  have hi3 : q3.1.toNat < n := i3
  have hnn : n ≤ 2000 := hn
  rw [q_gs 11 ar _ j _ (by show _ < 2048; omega) (by show _ < 2048; omega)]
  by_cases ej : j = q3.1.toNat
  · rw [if_pos ej]
    have hu : vf_upd f i.toNatClampNeg x j = x := by unfold vf_upd; rw [if_pos (by rw [i2]; exact ej)]
    rw [hu]
    exact g0.ex hex
  · rw [if_neg ej]
    have hu : vf_upd f i.toNatClampNeg x j = f j := by unfold vf_upd; rw [if_neg (by rw [i2]; exact ej)]
    rw [hu]
    exact (hel j hj).ex hex
theorem q_s_asr {cc9 : Nat}
    (row : ∀ (ws : va_W) (tys : List (ClassId × FieldType)) (H : Heap) (locs : List Loc) (ls : Array Slot) (r : List Value) (k kv a v : Nat) (vs : List Value) (cA : ClassId) (n t : Nat) (f : Nat → Option Nat) (i : Int32), va_K D cl9 tys s → va_P D cl9 ws H → va_D (q_A base) ws → va_S (q_A base) s.heap H locs → ws[k]? = some (a, .inl (cA, n, .inr (.inr (.inr (.inr f))))) → tys[t]? = some (cA, .object q_tbl) → ws[kv]? = some (v, .inr (cc9, vs)) → vp_in i n →
      (∀ H1 locs1, va_P D cl9 (ws.set k (a, .inl (cA, n, .inr (.inr (.inr (.inr (va_up f i.toNatClampNeg (some v)))))))) H1 → va_D (q_A base) (ws.set k (a, .inl (cA, n, .inr (.inr (.inr (.inr (va_up f i.toNatClampNeg (some v)))))))) → va_S (q_A base) s.heap H1 locs1 → w H1 locs1 cl sl nx ls r) → w H locs cl sl pc ls (.ref v :: .int i :: .ref a :: r))
    (h : q_oAsr cc9 nx lo st hp iv cl sl = some z) (hz : ∀ c ∈ z.1, q_G w cl9 nL ρ bs base D ws0 s c) : q_G w cl9 nL ρ bs base D ws0 s (pc, lo, st, hp, iv, cl, sl) := by
  intro ho ws tys H locs ls lv sR hK hP hD hS hW hE hL hF hl
  obtain ⟨v, h0, h⟩ := q_bd_i h
  obtain ⟨co, hco, h⟩ := q_bd_i h
  obtain ⟨ha, h⟩ := q_if_i h
  obtain ⟨ha1, ha2⟩ := q_and_i ha
  obtain ⟨q, h1, h⟩ := q_bd_i h
  obtain ⟨q2, h2, h⟩ := q_bd_i h
  obtain ⟨c, h3, h⟩ := q_bd_i h
  obtain ⟨h4, h⟩ := q_if_i h
  obtain ⟨h5, h6⟩ := q_and_i h4
  obtain ⟨h7, h8⟩ := q_and_i h6
  cases q_so h
  have e0 := q_pop_i h0
  have e := q_pop_i h1
  have e2 := q_pop_i h2
  rw [e0, e, e2] at hF
  obtain ⟨X, r0, rfl, g0, hF0⟩ := q_F2_c hF
  obtain ⟨V, r, rfl, g1, hF1⟩ := q_F2_c hF0
  obtain ⟨V2, r2, rfl, g2, hF2⟩ := q_F2_c hF1
  obtain ⟨b, e9, k1, rfl, k3⟩ := q_at_i hW h3 g2
  obtain ⟨bo, e8, o1, rfl, o3⟩ := q_at_i hW hco g0
  obtain ⟨kd, n, fs, ar⟩ := c
  have e3 : kd = 5 := q_bq h5
  subst e3
  obtain ⟨ko, no, fo, ao⟩ := co
  have e4 : ko = 0 := q_bq ha1
  have e5 : no = cc9 := q_bq ha2
  subst e4; subst e5
  obtain ⟨vs, rfl, -⟩ := o3
  obtain ⟨hn, cA, t, f, rfl, ht, hel⟩ := k3
  obtain ⟨⟨tt, bb⟩, q9⟩ := q
  have e6 : tt = 0 := q_bq h7
  subst e6
  have e7 : V = .int (Int32.ofInt bb) := g1
  subst e7
  obtain ⟨i1, i2, i3⟩ := q_ix (q_w32_m bb) h8
  refine row ws tys _ _ _ _ _ _ _ _ vs cA n t f (Int32.ofInt bb) hK hP hD hS k1 ht o1 i1 (fun H1 locs1 hP1 hD1 hS1 => ?_)
  have hex : q_Ex ws (ws.set q2.1.2.toNat (b, .inl (cA, n, .inr (.inr (.inr (.inr (va_up f (Int32.ofInt bb).toNatClampNeg (some bo)))))))) := q_Ex.st k1
  refine hz _ List.mem_cons_self ho _ tys H1 locs1 ls lv _ hK hP1 hD1 hS1 (hW.put k1 ⟨hn, cA, t, _, rfl, ht, fun j hj => ?_⟩) (hE.tr hex) (q_F2_m (fun a b h => ⟨h.1, h.2.ex hex⟩) hL) (q_F2_m (fun a b h => h.ex hex) hF2) hl
  show q_rv ρ bs _ (q_get 11 (q_set 11 ar (q_w32 bb).toNat _) j) _
  have hj : j < n := hj
  have hi3 : (q_w32 bb).toNat < n := i3
  have hnn : n ≤ 2000 := hn
  rw [q_gs 11 ar _ j _ (by show _ < 2048; omega) (by show _ < 2048; omega)]
  by_cases ej : j = (q_w32 bb).toNat
  · rw [if_pos ej]
    have hu : va_up f (Int32.ofInt bb).toNatClampNeg (some bo) j = some bo := by unfold va_up; rw [if_pos (by rw [i2]; exact ej)]
    rw [hu]
    exact g0.ex hex
  · rw [if_neg ej]
    have hu : va_up f (Int32.ofInt bb).toNatClampNeg (some bo) j = f j := by unfold va_up; rw [if_neg (by rw [i2]; exact ej)]
    rw [hu]
    exact (hel j hj).ex hex
theorem q_tgt_s {d l9 h9 n : Int} {offs : Array Int} {t : Nat} (h : q_tgt pc d l9 h9 offs n = some t) : (l9 ≤ n ∧ n ≤ h9 ∧ ∃ off, offs[(n - l9).toNat]? = some off ∧ (pc : Int) + off = (t : Int)) ∨ ((n < l9 ∨ h9 < n) ∧ (pc : Int) + d = (t : Int)) := by
  unfold q_tgt at h
  cases hb : (bif q_ile l9 n then q_ile n h9 else false) with
  | true =>
    rw [hb] at h
    obtain ⟨h1, h2⟩ := q_and_i hb
    obtain ⟨o, h3, h⟩ := q_bd_i h
    obtain ⟨h4, h⟩ := q_if_i h
    have h4 := q_ile_i h4
    cases q_so h
    refine Or.inl ⟨q_ile_i h1, q_ile_i h2, o, by rw [q_nth_g, Array.getElem?_toList] at h3; exact h3, ?_⟩
    change (0 : Int) ≤ (pc : Int) + o at h4
    show (pc : Int) + o = (((pc : Int) + o).toNat : Int)
    omega
  | false =>
    rw [hb] at h
    obtain ⟨h4, h⟩ := q_if_i h
    have h4 := q_ile_i h4
    cases q_so h
    refine Or.inr ⟨?_, ?_⟩
    · cases h1 : q_ile l9 n with
      | false => exact Or.inl (q_ile_n h1)
      | true => rw [h1] at hb; exact Or.inr (q_ile_n hb)
    · change (0 : Int) ≤ (pc : Int) + d at h4
      show (pc : Int) + d = (((pc : Int) + d).toNat : Int)
      omega
theorem q_s_sw {d l9 h9 : Int} {offs : Array Int} (hr : q_rg ρ) (hl9 : q_w32 l9 = l9) (hh9 : q_w32 h9 = h9) (hlh : l9 ≤ h9)
    (rowI : ∀ H locs ls r (x : Int32) (off : Int) (t : Nat), ¬ x.toInt < l9 → ¬ h9 < x.toInt → offs[(x.toInt - l9).toNat]? = some off → (pc : Int) + off = (t : Int) → w H locs cl sl t ls r → w H locs cl sl pc ls (.int x :: r))
    (rowO : ∀ H locs ls r (x : Int32) (t : Nat), (x.toInt < l9 ∨ h9 < x.toInt) → (pc : Int) + d = (t : Int) → w H locs cl sl t ls r → w H locs cl sl pc ls (.int x :: r))
    (h : q_oSw d l9 h9 offs pc lo st hp iv cl sl = some z) (hz : ∀ c ∈ z.1, q_G w cl9 nL ρ bs base D ws0 s c) : q_G w cl9 nL ρ bs base D ws0 s (pc, lo, st, hp, iv, cl, sl) := by
  intro ho ws tys H locs ls lv sR hK hP hD hS hW hE hL hF hl
  obtain ⟨q, h1, h⟩ := q_bd_i h
  obtain ⟨h3, h⟩ := q_if_i h
  obtain ⟨l1, h5, h⟩ := q_bd_i h
  obtain ⟨bs1, h6, h⟩ := q_bd_i h
  cases q_so h
  have e := q_pop_i h1
  rw [e] at hF
  obtain ⟨V, r, rfl, g1, hF1⟩ := q_F2_c hF
  obtain ⟨x, rfl⟩ := q_isI_i h3 g1
  obtain ⟨hk, q1, m1, ho1, hc1⟩ := q_c3_s ho h5
  have hk2 : q.1.1 = 0 ∨ q.1.1 = 6 := by
    rcases hk with hk | hk
    · exact hk.1
    · have := hk.2; simp at this
  have hx := q_nv_i hr hk2 g1
  rw [← hx, show q_nv ρ (0, l9) = l9 from hl9] at hc1
  obtain ⟨b1, m2, hb1⟩ := q_all_i h6 q1 m1
  have hfin : ∀ t iv2, (t, lo, q.2, hp, iv2, cl, sl) ∈ b1 → q_ok ρ iv2 → w H locs cl sl t ls r := fun t iv2 hmem hok =>
    hz _ (q_cat_m m2 _ hmem) hok ws tys H locs ls lv r hK hP hD hS hW hE hL hF1 hl
  cases hb : Nat.beq q1.1 0 with
  | true =>
    rw [hb] at hb1
    have e0 := q_bq hb
    have hlt : x.toInt < l9 := by
      rcases hc1 with ⟨_, h⟩ | ⟨e1, _⟩ | ⟨e1, _⟩
      · exact h
      · omega
      · omega
    obtain ⟨t, ht, hb1⟩ := q_bd_i hb1
    cases q_so hb1
    rcases q_tgt_s ht with ⟨g, _⟩ | ⟨_, g⟩
    · change l9 ≤ l9 - 1 at g; omega
    · exact rowO _ _ _ _ x t (Or.inl hlt) g (hfin t _ List.mem_cons_self ho1)
  | false =>
    rw [hb] at hb1
    have hge : l9 ≤ x.toInt := by
      rcases hc1 with ⟨e1, _⟩ | ⟨_, h⟩ | ⟨_, h⟩
      · rw [e1] at hb; cases hb
      · omega
      · omega
    obtain ⟨l2, h7, hb1⟩ := q_bd_i hb1
    obtain ⟨bs2, h8, hb1⟩ := q_bd_i hb1
    cases q_so hb1
    have g1' := q_conc_rv ho1 g1
    obtain ⟨hk', q2, m3, ho2, hc2⟩ := q_c3_s ho1 h7
    have hk3 : (q_conc q1.2 q.1).1 = 0 ∨ (q_conc q1.2 q.1).1 = 6 := by
      rcases hk' with hk | hk
      · exact hk.1
      · have := hk.2; simp at this
    have hx2 := q_nv_i hr hk3 g1'
    rw [← hx2, show q_nv ρ (0, h9) = h9 from hh9] at hc2
    obtain ⟨b2, m4, hb2⟩ := q_all_i h8 q2 m3
    cases hb3 : Nat.beq q2.1 2 with
    | true =>
      rw [hb3] at hb2
      have e0 := q_bq hb3
      have hgt : h9 < x.toInt := by
        rcases hc2 with ⟨e1, _⟩ | ⟨e1, _⟩ | ⟨_, h⟩
        · omega
        · omega
        · exact h
      obtain ⟨t, ht, hb2⟩ := q_bd_i hb2
      cases q_so hb2
      rcases q_tgt_s ht with ⟨_, g, _⟩ | ⟨_, g⟩
      · change h9 + 1 ≤ h9 at g; omega
      · exact rowO _ _ _ _ x t (Or.inr hgt) g (hfin t _ (q_cat_m m4 _ List.mem_cons_self) ho2)
    | false =>
      rw [hb3] at hb2
      have hle : x.toInt ≤ h9 := by
        rcases hc2 with ⟨_, h⟩ | ⟨_, h⟩ | ⟨e1, _⟩
        · omega
        · omega
        · rw [e1] at hb3; cases hb3
      obtain ⟨l3, h10, hb2⟩ := q_bd_i hb2
      have g1'' := q_conc_rv ho2 g1
      obtain ⟨x', hx', q3, m5, ho3, hc3⟩ := q_enum_s hr ho2 h10 g1''
      cases hx'
      obtain ⟨c3, m6, hb4⟩ := q_all_i hb2 q3 m5
      obtain ⟨t, ht, hb4⟩ := q_bd_i hb4
      cases q_so hb4
      rcases q_tgt_s ht with ⟨_, _, off, g3, g4⟩ | ⟨g3, _⟩
      · exact rowI _ _ _ _ x off t (by omega) (by omega) (by rw [hc3]; exact g3) g4 (hfin t _ (q_cat_m m4 _ m6) ho3)
      · omega
end q_hsec
end
section
/-! Part 09: names, links, the words of the tables that are used, each by its place. Printed by wip/tools/gen_links.py. -/
def q_on (n : Nat) : String := match n with
  | 0 => "StepperTable$Account"
  | 1 => "StepperTable$Axis"
  | 2 => "StepperTable$Bytes"
  | 3 => "StepperTable$History"
  | 4 => "StepperTable$Plan"
  | 5 => "StepperTable$Setup"
  | 6 => "StepperTable$Table"
  | 7 => "StepperTable$Targets"
  | 8 => "StepperTable"
  | 9 => "StepperTableModel"
  | _ => "StepperTableLaw"
def q_ex (n : Nat) : String := match n with
  | 0 => "java/lang/IllegalArgumentException"
  | 1 => "java/lang/IndexOutOfBoundsException"
  | 2 => "java/lang/IllegalStateException"
  | _ => "java/util/NoSuchElementException"
def q_CF0 : u_T := fun k => match k with
  | 0 => ("StepperTable$Account", "forward", "I", false)
  | 1 => ("StepperTable$Account", "backward", "I", false)
  | 2 => ("StepperTable$Account", "lost", "I", false)
  | 3 => ("StepperTable$Account", "compensations", "I", false)
  | 4 => ("StepperTable$Account", "homings", "I", false)
  | 5 => ("StepperTable$Account", "failures", "I", false)
  | _ => ("StepperTable$Account", "reversals", "I", false)
def q_CT0 : Nat → FieldType := fun k => match k with
  | 0 => .int
  | 1 => .int
  | 2 => .int
  | 3 => .int
  | 4 => .int
  | 5 => .int
  | _ => .int
def q_CF1 : u_T := fun k => match k with
  | 0 => ("StepperTable$Axis", "length", "I", false)
  | 1 => ("StepperTable$Axis", "backlash", "I", false)
  | 2 => ("StepperTable$Axis", "top", "I", false)
  | 3 => ("StepperTable$Axis", "acceleration", "I", false)
  | 4 => ("StepperTable$Axis", "switchPosition", "I", false)
  | 5 => ("StepperTable$Axis", "hysteresis", "I", false)
  | 6 => ("StepperTable$Axis", "truePosition", "I", false)
  | 7 => ("StepperTable$Axis", "slack", "I", false)
  | 8 => ("StepperTable$Axis", "direction", "I", false)
  | 9 => ("StepperTable$Axis", "stuck", "I", false)
  | 10 => ("StepperTable$Axis", "closed", "Z", false)
  | 11 => ("StepperTable$Axis", "homed", "Z", false)
  | 12 => ("StepperTable$Axis", "coordinate", "I", false)
  | 13 => ("StepperTable$Axis", "zero", "I", false)
  | _ => ("StepperTable$Axis", "account", "LStepperTable$Account;", true)
def q_CT1 : Nat → FieldType := fun k => match k with
  | 0 => .int
  | 1 => .int
  | 2 => .int
  | 3 => .int
  | 4 => .int
  | 5 => .int
  | 6 => .int
  | 7 => .int
  | 8 => .int
  | 9 => .int
  | 10 => .boolean
  | 11 => .boolean
  | 12 => .int
  | 13 => .int
  | _ => .object "StepperTable$Account"
def q_CF2 : u_T := fun k => match k with
  | 0 => ("StepperTable$Bytes", "row", "[B", true)
  | _ => ("StepperTable$Bytes", "length", "I", false)
def q_CT2 : Nat → FieldType := fun k => match k with
  | 0 => .array .byte
  | _ => .int
def q_CF3 : u_T := fun k => match k with
  | 0 => ("StepperTable$History", "ring", "[LStepperTable$Table;", true)
  | 1 => ("StepperTable$History", "size", "I", false)
  | _ => ("StepperTable$History", "next", "I", false)
def q_CT3 : Nat → FieldType := fun k => match k with
  | 0 => .array (.object "StepperTable$Table")
  | 1 => .int
  | _ => .int
def q_CF4 : u_T := fun k => match k with
  | 0 => ("StepperTable$Plan", "begins", "[I", true)
  | 1 => ("StepperTable$Plan", "distances", "[I", true)
  | 2 => ("StepperTable$Plan", "turnings", "[I", true)
  | 3 => ("StepperTable$Plan", "leads", "[I", true)
  | 4 => ("StepperTable$Plan", "cruises", "[I", true)
  | 5 => ("StepperTable$Plan", "gains", "[I", true)
  | 6 => ("StepperTable$Plan", "straights", "[I", true)
  | 7 => ("StepperTable$Plan", "compensations", "[I", true)
  | 8 => ("StepperTable$Plan", "speeds", "[I", true)
  | 9 => ("StepperTable$Plan", "size", "I", false)
  | _ => ("StepperTable$Plan", "start", "I", false)
def q_CT4 : Nat → FieldType := fun k => match k with
  | 0 => .array .int
  | 1 => .array .int
  | 2 => .array .int
  | 3 => .array .int
  | 4 => .array .int
  | 5 => .array .int
  | 6 => .array .int
  | 7 => .array .int
  | 8 => .array .int
  | 9 => .int
  | _ => .int
def q_CF5 : u_T := fun k => match k with
  | 0 => ("StepperTable$Setup", "numbers", "[I", true)
  | 1 => ("StepperTable$Setup", "begins", "[I", true)
  | 2 => ("StepperTable$Setup", "start", "I", false)
  | 3 => ("StepperTable$Setup", "seen", "I", false)
  | 4 => ("StepperTable$Setup", "code", "I", false)
  | 5 => ("StepperTable$Setup", "offset", "I", false)
  | _ => ("StepperTable$Setup", "place", "I", false)
def q_CT5 : Nat → FieldType := fun k => match k with
  | 0 => .array .int
  | 1 => .array .int
  | 2 => .int
  | 3 => .int
  | 4 => .int
  | 5 => .int
  | _ => .int
def q_CF6 : u_T := fun k => match k with
  | 0 => ("StepperTable$Table", "x", "LStepperTable$Axis;", true)
  | 1 => ("StepperTable$Table", "y", "LStepperTable$Axis;", true)
  | 2 => ("StepperTable$Table", "z", "LStepperTable$Axis;", true)
  | 3 => ("StepperTable$Table", "targets", "LStepperTable$Targets;", true)
  | 4 => ("StepperTable$Table", "start", "I", false)
  | 5 => ("StepperTable$Table", "compensation", "Z", false)
  | 6 => ("StepperTable$Table", "detection", "Z", false)
  | 7 => ("StepperTable$Table", "alarm", "I", false)
  | 8 => ("StepperTable$Table", "passed", "J", false)
  | 9 => ("StepperTable$Table", "moveStepsTime", "J", false)
  | _ => ("StepperTable$Table", "moveSteps", "J", false)
def q_CT6 : Nat → FieldType := fun k => match k with
  | 0 => .object "StepperTable$Axis"
  | 1 => .object "StepperTable$Axis"
  | 2 => .object "StepperTable$Axis"
  | 3 => .object "StepperTable$Targets"
  | 4 => .int
  | 5 => .boolean
  | 6 => .boolean
  | 7 => .int
  | 8 => .long
  | 9 => .long
  | _ => .long
def q_CF7 : u_T := fun k => match k with
  | 0 => ("StepperTable$Targets", "row", "[I", true)
  | _ => ("StepperTable$Targets", "size", "I", false)
def q_CT7 : Nat → FieldType := fun k => match k with
  | 0 => .array .int
  | _ => .int
def q_CF8 : u_T := fun k => match k with
  | 0 => ("StepperTable", "input", "LStepperTable$Bytes;", true)
  | 1 => ("StepperTable", "setup", "LStepperTable$Setup;", true)
  | 2 => ("StepperTable", "table", "LStepperTable$Table;", true)
  | 3 => ("StepperTable", "saved", "LStepperTable$Table;", true)
  | 4 => ("StepperTable", "scratch", "LStepperTable$Table;", true)
  | 5 => ("StepperTable", "history", "LStepperTable$History;", true)
  | 6 => ("StepperTable", "plan", "LStepperTable$Plan;", true)
  | 7 => ("StepperTable", "path", "LStepperTable$Targets;", true)
  | 8 => ("StepperTable", "output", "LStepperTable$Bytes;", true)
  | _ => ("StepperTable", "hasSaved", "Z", false)
def q_CT8 : Nat → FieldType := fun k => match k with
  | 0 => .object "StepperTable$Bytes"
  | 1 => .object "StepperTable$Setup"
  | 2 => .object "StepperTable$Table"
  | 3 => .object "StepperTable$Table"
  | 4 => .object "StepperTable$Table"
  | 5 => .object "StepperTable$History"
  | 6 => .object "StepperTable$Plan"
  | 7 => .object "StepperTable$Targets"
  | 8 => .object "StepperTable$Bytes"
  | _ => .boolean
def q_CF9 : u_T := fun k => match k with
  | 0 => ("StepperTableModel", "w", "[J", true)
  | 1 => ("StepperTableModel", "wKept", "[J", true)
  | 2 => ("StepperTableModel", "aside", "[J", true)
  | 3 => ("StepperTableModel", "savedRow", "[J", true)
  | 4 => ("StepperTableModel", "past", "[J", true)
  | 5 => ("StepperTableModel", "pastMany", "I", false)
  | 6 => ("StepperTableModel", "isSaved", "Z", false)
  | 7 => ("StepperTableModel", "thrown", "I", false)
  | 8 => ("StepperTableModel", "distance", "[I", true)
  | 9 => ("StepperTableModel", "lead", "[I", true)
  | 10 => ("StepperTableModel", "cruise", "[I", true)
  | 11 => ("StepperTableModel", "gain", "[I", true)
  | 12 => ("StepperTableModel", "between", "[I", true)
  | 13 => ("StepperTableModel", "input", "[I", true)
  | 14 => ("StepperTableModel", "inputMany", "I", false)
  | 15 => ("StepperTableModel", "lastError", "I", false)
  | 16 => ("StepperTableModel", "lastOffset", "I", false)
  | 17 => ("StepperTableModel", "error", "I", false)
  | 18 => ("StepperTableModel", "offset", "I", false)
  | 19 => ("StepperTableModel", "nextByte", "I", false)
  | 20 => ("StepperTableModel", "begin", "I", false)
  | 21 => ("StepperTableModel", "value", "I", false)
  | 22 => ("StepperTableModel", "token", "I", false)
  | 23 => ("StepperTableModel", "once", "I", false)
  | 24 => ("StepperTableModel", "clock", "J", false)
  | 25 => ("StepperTableModel", "facing", "[I", true)
  | 26 => ("StepperTableModel", "output", "[I", true)
  | _ => ("StepperTableModel", "outputMany", "I", false)
def q_CT9 : Nat → FieldType := fun k => match k with
  | 0 => .array .long
  | 1 => .array .long
  | 2 => .array .long
  | 3 => .array .long
  | 4 => .array .long
  | 5 => .int
  | 6 => .boolean
  | 7 => .int
  | 8 => .array .int
  | 9 => .array .int
  | 10 => .array .int
  | 11 => .array .int
  | 12 => .array .int
  | 13 => .array .int
  | 14 => .int
  | 15 => .int
  | 16 => .int
  | 17 => .int
  | 18 => .int
  | 19 => .int
  | 20 => .int
  | 21 => .int
  | 22 => .int
  | 23 => .int
  | 24 => .long
  | 25 => .array .int
  | 26 => .array .int
  | _ => .int
def q_cF (n : Nat) : u_T := match n with
  | 0 => q_CF0
  | 1 => q_CF1
  | 2 => q_CF2
  | 3 => q_CF3
  | 4 => q_CF4
  | 5 => q_CF5
  | 6 => q_CF6
  | 7 => q_CF7
  | 8 => q_CF8
  | _ => q_CF9
def q_cT (n : Nat) : Nat → FieldType := match n with
  | 0 => q_CT0
  | 1 => q_CT1
  | 2 => q_CT2
  | 3 => q_CT3
  | 4 => q_CT4
  | 5 => q_CT5
  | 6 => q_CT6
  | 7 => q_CT7
  | 8 => q_CT8
  | _ => q_CT9
def q_cN (n : Nat) : Nat := match n with
  | 0 => 7
  | 1 => 15
  | 2 => 2
  | 3 => 3
  | 4 => 11
  | 5 => 7
  | 6 => 11
  | 7 => 2
  | 8 => 10
  | _ => 28
def q_cl : List vw_C := [(q_on 0, q_CF0, 7), (q_on 1, q_CF1, 15), (q_on 2, q_CF2, 2), (q_on 3, q_CF3, 3), (q_on 4, q_CF4, 11), (q_on 5, q_CF5, 7), (q_on 6, q_CF6, 11), (q_on 7, q_CF7, 2), (q_on 8, q_CF8, 10), (q_on 9, q_CF9, 28)]
theorem q_10 {P : Nat → Prop} (h0 : P 0) (h1 : P 1) (h2 : P 2) (h3 : P 3) (h4 : P 4) (h5 : P 5) (h6 : P 6) (h7 : P 7) (h8 : P 8) (h9 : P 9) : ∀ n, n < 10 → P n := by
  intro n hn
  match n, hn with
  | 0, _ => exact h0
  | 1, _ => exact h1
  | 2, _ => exact h2
  | 3, _ => exact h3
  | 4, _ => exact h4
  | 5, _ => exact h5
  | 6, _ => exact h6
  | 7, _ => exact h7
  | 8, _ => exact h8
  | 9, _ => exact h9
  | n + 10, h => omega
theorem q_cl_g : ∀ n, n < 10 → q_cl[n]? = some (q_on n, q_cF n, q_cN n) := q_10 rfl rfl rfl rfl rfl rfl rfl rfl rfl rfl
theorem q_cT_ok : ∀ n, n < 10 → ∀ k, k < q_cN n → parseFieldDescriptor (q_cF n k).2.2.1 = some (q_cT n k) := q_10 (by decide +kernel) (by decide +kernel) (by decide +kernel) (by decide +kernel) (by decide +kernel) (by decide +kernel) (by decide +kernel) (by decide +kernel) (by decide +kernel) (by decide +kernel)
theorem q_cF_ne : ∀ n, n < 10 → ∀ a, a < q_cN n → ∀ b, b < q_cN n → a ≠ b → (q_cF n a).2.1 ≠ (q_cF n b).2.1 := q_10 (by decide +kernel) (by decide +kernel) (by decide +kernel) (by decide +kernel) (by decide +kernel) (by decide +kernel) (by decide +kernel) (by decide +kernel) (by decide +kernel) (by decide +kernel)
theorem q_cF_own : ∀ n, n < 10 → ∀ k, k < q_cN n → (q_cF n k).1 = q_on n := q_10 (by decide +kernel) (by decide +kernel) (by decide +kernel) (by decide +kernel) (by decide +kernel) (by decide +kernel) (by decide +kernel) (by decide +kernel) (by decide +kernel) (by decide +kernel)
def q_dfR (n : Nat) : List Value := match n with
  | 0 => [.int (Int32.ofInt 0), .int (Int32.ofInt 0), .int (Int32.ofInt 0), .int (Int32.ofInt 0), .int (Int32.ofInt 0), .int (Int32.ofInt 0), .int (Int32.ofInt 0)]
  | 1 => [.int (Int32.ofInt 0), .int (Int32.ofInt 0), .int (Int32.ofInt 0), .int (Int32.ofInt 0), .int (Int32.ofInt 0), .int (Int32.ofInt 0), .int (Int32.ofInt 0), .int (Int32.ofInt 0), .int (Int32.ofInt 0), .int (Int32.ofInt 0), .int (Int32.ofInt 0), .int (Int32.ofInt 0), .int (Int32.ofInt 0), .int (Int32.ofInt 0), .null]
  | 2 => [.null, .int (Int32.ofInt 0)]
  | 3 => [.null, .int (Int32.ofInt 0), .int (Int32.ofInt 0)]
  | 4 => [.null, .null, .null, .null, .null, .null, .null, .null, .null, .int (Int32.ofInt 0), .int (Int32.ofInt 0)]
  | 5 => [.null, .null, .int (Int32.ofInt 0), .int (Int32.ofInt 0), .int (Int32.ofInt 0), .int (Int32.ofInt 0), .int (Int32.ofInt 0)]
  | 6 => [.null, .null, .null, .null, .int (Int32.ofInt 0), .int (Int32.ofInt 0), .int (Int32.ofInt 0), .int (Int32.ofInt 0), .long (Int64.ofInt 0), .long (Int64.ofInt 0), .long (Int64.ofInt 0)]
  | 7 => [.null, .int (Int32.ofInt 0)]
  | 8 => [.null, .null, .null, .null, .null, .null, .null, .null, .null, .int (Int32.ofInt 0)]
  | _ => [.null, .null, .null, .null, .null, .int (Int32.ofInt 0), .int (Int32.ofInt 0), .int (Int32.ofInt 0), .null, .null, .null, .null, .null, .null, .int (Int32.ofInt 0), .int (Int32.ofInt 0), .int (Int32.ofInt 0), .int (Int32.ofInt 0), .int (Int32.ofInt 0), .int (Int32.ofInt 0), .int (Int32.ofInt 0), .int (Int32.ofInt 0), .int (Int32.ofInt 0), .int (Int32.ofInt 0), .long (Int64.ofInt 0), .null, .null, .int (Int32.ofInt 0)]
theorem q_dfR_ok : ∀ n, n < 10 → ∀ j, j < q_cN n → defaultValue (q_cT n j) = vp_V (q_dfR n) j := q_10 (by decide +kernel) (by decide +kernel) (by decide +kernel) (by decide +kernel) (by decide +kernel) (by decide +kernel) (by decide +kernel) (by decide +kernel) (by decide +kernel) (by decide +kernel)
abbrev q_RIt := MethodName × ByteArray × Nat × Option FieldType × List (Nat × Nat × Nat × Nat)
def q_RI0 : List q_RIt := [(⟨q_on 10, "account", "(LStepperTable;II[J)I"⟩, method_41_code, 5, (some .int), [(0, 10, 13, 19), (0, 10, 17, 13)]),
  (⟨q_on 10, "axis", "(LStepperTable;II[J)I"⟩, method_4_code, 5, (some .int), [(0, 10, 13, 19), (0, 10, 17, 13)]),
  (⟨q_on 10, "bestStart", "(LStepperTable;[J)I"⟩, method_39_code, 3, (some .int), [(0, 8, 11, 47)]),
  (⟨q_on 10, "bound", "(LStepperTable;IZ[J)I"⟩, method_27_code, 5, (some .int), [(0, 10, 13, 19), (0, 10, 17, 24)]),
  (⟨q_on 10, "coordinate", "(LStepperTable;I[J)I"⟩, method_5_code, 4, (some .int), [(0, 9, 12, 19), (0, 9, 15, 24)]),
  (⟨q_on 10, "count", "(LStepperTable;I[J)I"⟩, method_3_code, 4, (some .int), [(0, 9, 12, 13)]),
  (⟨q_on 10, "deviation", "(LStepperTable;I[D)I"⟩, method_19_code, 4, (some .int), [(0, 9, 12, 19)]),
  (⟨q_on 10, "dropTarget", "(LStepperTable;I[J)I"⟩, method_22_code, 4, (some .int), [(0, 9, 12, 19), (0, 9, 15, 24)]),
  (⟨q_on 10, "error", "(LStepperTable;I[J)I"⟩, method_6_code, 4, (some .int), [(0, 9, 12, 19), (0, 9, 15, 24)]),
  (⟨q_on 10, "home", "(LStepperTable;I[J)I"⟩, method_8_code, 4, (some .int), [(0, 9, 12, 19), (0, 9, 15, 24)]),
  (⟨q_on 10, "homeAll", "(LStepperTable;[J)I"⟩, method_20_code, 3, (some .int), [(0, 8, 11, 24)]),
  (⟨q_on 10, "insert", "(LStepperTable;IIII[J)I"⟩, method_21_code, 7, (some .int), [(0, 14, 17, 13), (0, 14, 21, 24)]),
  (⟨q_on 10, "jog", "(LStepperTable;II[J)I"⟩, method_9_code, 5, (some .int), [(0, 10, 13, 19), (0, 10, 17, 13), (0, 10, 21, 24)]),
  (⟨q_on 10, "lastsUntil", "(LStepperTable;I[J)I"⟩, method_29_code, 4, (some .int), [(0, 8, 11, 19)]),
  (⟨q_on 10, "lineLength", "(LStepperTable;I[D)I"⟩, method_32_code, 4, (some .int), [(0, 8, 11, 19)]),
  (⟨q_on 10, "lostShare", "(LStepperTable;I[D)I"⟩, method_42_code, 4, (some .int), [(0, 9, 12, 19)]),
  (⟨q_on 10, "meanSpeed", "(LStepperTable;I[D)I"⟩, method_33_code, 4, (some .int), [(0, 8, 11, 19)]),
  (⟨q_on 10, "move", "(LStepperTable;II[J)I"⟩, method_16_code, 5, (some .int), [(0, 10, 13, 19), (0, 10, 17, 13)]),
  (⟨q_on 10, "nearestOrder", "(LStepperTable;I[J)I"⟩, method_28_code, 4, (some .int), [(0, 9, 12, 47)]),
  (⟨q_on 10, "pointAt", "(LStepperTable;III[J)I"⟩, method_24_code, 6, (some .int), [(0, 12, 15, 19), (0, 12, 19, 13)]),
  (⟨q_on 10, "queue", "(LStepperTable;III[J)I"⟩, method_10_code, 6, (some .int), [(0, 12, 15, 13), (0, 12, 19, 24)]),
  (⟨q_on 10, "rampSteps", "(LStepperTable;IZ[J)I"⟩, method_25_code, 5, (some .int), [(0, 10, 13, 19)]),
  (⟨q_on 10, "readsClosed", "(LStepperTable;I[J)I"⟩, method_7_code, 4, (some .int), [(0, 16, 19, 19)]),
  (⟨q_on 10, "restoreState", "(LStepperTable;[J)I"⟩, method_43_code, 3, (some .int), [(0, 8, 11, 24)]),
  (⟨q_on 10, "run", "(LStepperTable;I[J)I"⟩, method_12_code, 4, (some .int), [(0, 9, 12, 13), (0, 9, 15, 47)]),
  (⟨q_on 10, "setStart", "(LStepperTable;I[J)I"⟩, method_14_code, 4, (some .int), [(0, 9, 12, 13)]),
  (⟨q_on 10, "setStuck", "(LStepperTable;II[J)I"⟩, method_13_code, 5, (some .int), [(0, 10, 13, 19), (0, 10, 17, 13)]),
  (⟨q_on 10, "slackLeft", "(LStepperTable;IZ[J)I"⟩, method_40_code, 5, (some .int), [(0, 10, 13, 19)]),
  (⟨q_on 10, "slowest", "(LStepperTable;I[J)I"⟩, method_26_code, 4, (some .int), [(0, 9, 12, 19)]),
  (⟨q_on 10, "speed", "(LStepperTable;II[J)I"⟩, method_17_code, 5, (some .int), [(0, 10, 13, 19), (0, 10, 17, 47)]),
  (⟨q_on 10, "stepsBehind", "(LStepperTable;III[J)I"⟩, method_18_code, 6, (some .int), [(0, 12, 15, 19), (0, 12, 19, 13)]),
  (⟨q_on 10, "straightTime", "(LStepperTable;III[J)I"⟩, method_36_code, 6, (some .int), [(0, 11, 14, 13), (0, 11, 18, 24)]),
  (⟨q_on 10, "swapTargets", "(LStepperTable;II[J)I"⟩, method_23_code, 5, (some .int), [(0, 10, 13, 19), (0, 10, 17, 24)]),
  (⟨q_on 10, "target", "(LStepperTable;II[J)I"⟩, method_15_code, 5, (some .int), [(0, 10, 13, 19)]),
  (⟨q_on 10, "travel", "(LStepperTable;I[J)I"⟩, method_34_code, 4, (some .int), [(0, 9, 12, 19)]),
  (⟨q_on 10, "trueBehind", "(LStepperTable;I[J)I"⟩, method_31_code, 4, (some .int), [(0, 9, 12, 19)]),
  (⟨q_on 10, "turnsAhead", "(LStepperTable;I[J)I"⟩, method_35_code, 4, (some .int), [(0, 9, 12, 19)]),
  (⟨q_on 10, "unqueue", "(LStepperTable;[J)I"⟩, method_11_code, 3, (some .int), [(0, 8, 11, 47)]),
  (⟨q_on 10, "whereAt", "(LStepperTable;II[J)I"⟩, method_30_code, 5, (some .int), [(0, 10, 13, 19), (0, 10, 17, 13), (0, 10, 21, 24)]),
  (⟨q_on 10, "wouldErr", "(LStepperTable;I[J)I"⟩, method_37_code, 4, (some .int), [(0, 9, 12, 19), (0, 9, 15, 24)])]
def q_RI1 : List q_RIt := [(⟨q_on 10, "wouldHome", "(LStepperTable;I[J)I"⟩, method_38_code, 4, (some .int), [(0, 9, 12, 19)]),
  (⟨q_on 0, "clear", "()V"⟩, prog_2_method_2_code, 1, none, []),
  (⟨q_on 0, "copyFrom", "(LStepperTable$Account;)V"⟩, prog_2_method_3_code, 2, none, []),
  (⟨q_on 0, "<init>", "()V"⟩, prog_2_method_1_code, 1, none, []),
  (⟨q_on 0, "number", "(I)I"⟩, prog_2_method_4_code, 2, (some .int), []),
  (⟨q_on 1, "builtIn", "(I)I"⟩, prog_3_method_4_code, 2, (some .int), []),
  (⟨q_on 1, "copyFrom", "(LStepperTable$Axis;)V"⟩, prog_3_method_3_code, 2, none, []),
  (⟨q_on 1, "<init>", "()V"⟩, prog_3_method_1_code, 1, none, []),
  (⟨q_on 1, "makeStep", "(I)Z"⟩, prog_3_method_10_code, 3, (some .boolean), []),
  (⟨q_on 1, "property", "(I)I"⟩, prog_3_method_5_code, 2, (some .int), []),
  (⟨q_on 1, "pushForward", "()Z"⟩, prog_3_method_11_code, 1, (some .boolean), []),
  (⟨q_on 1, "reaches", "(I)Z"⟩, prog_3_method_7_code, 2, (some .boolean), []),
  (⟨q_on 1, "readsShut", "()Z"⟩, prog_3_method_8_code, 1, (some .boolean), []),
  (⟨q_on 1, "seek", "(Z)I"⟩, prog_3_method_13_code, 4, (some .int), []),
  (⟨q_on 1, "setUp", "(LStepperTable$Setup;I)V"⟩, prog_3_method_2_code, 3, none, []),
  (⟨q_on 1, "stepsToMove", "(Z)I"⟩, prog_3_method_15_code, 2, (some .int), []),
  (⟨q_on 1, "zeroHere", "()V"⟩, prog_3_method_14_code, 1, none, []),
  (⟨q_on 2, "addByte", "(I)V"⟩, prog_4_method_2_code, 2, none, []),
  (⟨q_on 2, "addWord", "(I)V"⟩, prog_4_method_3_code, 2, none, []),
  (⟨q_on 2, "byteAt", "(I)I"⟩, prog_4_method_5_code, 2, (some .int), []),
  (⟨q_on 2, "<init>", "()V"⟩, prog_4_method_1_code, 1, none, []),
  (⟨q_on 3, "clear", "()V"⟩, prog_5_method_2_code, 1, none, []),
  (⟨q_on 3, "<init>", "()V"⟩, prog_5_method_1_code, 2, none, []),
  (⟨q_on 3, "remember", "(LStepperTable$Table;)V"⟩, prog_5_method_3_code, 3, none, []),
  (⟨q_on 3, "slot", "(I)LStepperTable$Table;"⟩, prog_5_method_5_code, 2, (some (.object "StepperTable$Table")), []),
  (⟨q_on 4, "<init>", "()V"⟩, prog_6_method_1_code, 1, none, []),
  (⟨q_on 4, "make", "(LStepperTable$Table;LStepperTable$Targets;I)V"⟩, prog_6_method_2_code, 5, none, []),
  (⟨q_on 4, "measure", "(LStepperTable$Axis;LStepperTable$Targets;I)V"⟩, prog_6_method_3_code, 10, none, []),
  (⟨q_on 4, "smooth", "()V"⟩, prog_6_method_8_code, 3, none, []),
  (⟨q_on 4, "straightCount", "()I"⟩, prog_6_method_23_code, 3, (some .int), []),
  (⟨q_on 4, "timeUntil", "(I)J"⟩, prog_6_method_32_code, 5, (some .long), []),
  (⟨q_on 4, "wholeTime", "()J"⟩, prog_6_method_33_code, 1, (some .long), []),
  (⟨q_on 5, "findToken", "(LStepperTable$Bytes;)Z"⟩, prog_7_method_6_code, 2, (some .boolean), []),
  (⟨q_on 5, "forget", "()V"⟩, prog_7_method_5_code, 2, none, []),
  (⟨q_on 5, "hasSeen", "(I)Z"⟩, prog_7_method_3_code, 2, (some .boolean), []),
  (⟨q_on 5, "<init>", "()V"⟩, prog_7_method_1_code, 1, none, []),
  (⟨q_on 5, "keep", "(III)V"⟩, prog_7_method_13_code, 4, none, []),
  (⟨q_on 5, "number", "(II)I"⟩, prog_7_method_2_code, 3, (some .int), []),
  (⟨q_on 5, "parse", "(LStepperTable$Bytes;)V"⟩, prog_7_method_4_code, 3, none, []),
  (⟨q_on 6, "axisAt", "(I)LStepperTable$Axis;"⟩, prog_8_method_4_code, 2, (some (.object "StepperTable$Axis")), [])]
def q_RI2 : List q_RIt := [(⟨q_on 6, "copyFrom", "(LStepperTable$Table;)V"⟩, prog_8_method_3_code, 2, none, []),
  (⟨q_on 6, "homeAxis", "(I)I"⟩, prog_8_method_13_code, 5, (some .int), []),
  (⟨q_on 6, "homedAxes", "()I"⟩, prog_8_method_5_code, 1, (some .int), []),
  (⟨q_on 6, "<init>", "()V"⟩, prog_8_method_1_code, 1, none, []),
  (⟨q_on 6, "jogAxis", "(II)V"⟩, prog_8_method_15_code, 6, none, []),
  (⟨q_on 6, "lostSteps", "()I"⟩, prog_8_method_6_code, 1, (some .int), []),
  (⟨q_on 6, "makeMoves", "(LStepperTable$Plan;I)I"⟩, prog_8_method_16_code, 4, (some .int), []),
  (⟨q_on 6, "setUp", "(LStepperTable$Setup;)V"⟩, prog_8_method_2_code, 2, none, []),
  (⟨q_on 6, "slowStepTime", "()I"⟩, prog_8_method_11_code, 1, (some .int), []),
  (⟨q_on 6, "stopWith", "(I)V"⟩, prog_8_method_12_code, 2, none, []),
  (⟨q_on 7, "clear", "()V"⟩, prog_9_method_2_code, 1, none, []),
  (⟨q_on 7, "copyFrom", "(LStepperTable$Targets;)V"⟩, prog_9_method_3_code, 3, none, []),
  (⟨q_on 7, "<init>", "()V"⟩, prog_9_method_1_code, 1, none, []),
  (⟨q_on 7, "nearestTo", "(IIII)I"⟩, prog_9_method_11_code, 11, (some .int), []),
  (⟨q_on 7, "removeFirst", "(I)V"⟩, prog_9_method_8_code, 3, none, []),
  (⟨q_on 8, "account", "(II)I"⟩, prog_1_method_56_code, 3, (some .int), []),
  (⟨q_on 8, "appendInput", "(IIIII)I"⟩, prog_1_method_2_code, 6, (some .int), []),
  (⟨q_on 8, "axis", "(II)I"⟩, prog_1_method_8_code, 4, (some .int), []),
  (⟨q_on 8, "bestFirst", "()I"⟩, prog_1_method_53_code, 7, (some .int), []),
  (⟨q_on 8, "bestStart", "()I"⟩, prog_1_method_54_code, 7, (some .int), []),
  (⟨q_on 8, "bound", "(IZ)I"⟩, prog_1_method_37_code, 6, (some .int), []),
  (⟨q_on 8, "checkAllHomed", "()V"⟩, prog_1_method_67_code, 1, none, []),
  (⟨q_on 8, "checkAxis", "(I)V"⟩, prog_1_method_64_code, 2, none, []),
  (⟨q_on 8, "checkHomed", "(I)V"⟩, prog_1_method_66_code, 2, none, []),
  (⟨q_on 8, "checkMove", "(I)V"⟩, prog_1_method_65_code, 2, none, []),
  (⟨q_on 8, "checkNoAlarm", "()V"⟩, prog_1_method_68_code, 1, none, []),
  (⟨q_on 8, "checkPoint", "(III)V"⟩, prog_1_method_70_code, 4, none, []),
  (⟨q_on 8, "checkQueueEmpty", "()V"⟩, prog_1_method_69_code, 1, none, []),
  (⟨q_on 8, "checkRoom", "()V"⟩, prog_1_method_71_code, 1, none, []),
  (⟨q_on 8, "coordinate", "(I)I"⟩, prog_1_method_9_code, 2, (some .int), []),
  (⟨q_on 8, "count", "(I)I"⟩, prog_1_method_7_code, 2, (some .int), []),
  (⟨q_on 8, "deviation", "(I)F"⟩, prog_1_method_32_code, 2, (some .float), []),
  (⟨q_on 8, "dropTarget", "(I)I"⟩, prog_1_method_26_code, 2, (some .int), []),
  (⟨q_on 8, "enter", "([III)V"⟩, prog_1_method_77_code, 3, none, []),
  (⟨q_on 8, "entry", "([II)I"⟩, prog_1_method_76_code, 2, (some .int), []),
  (⟨q_on 8, "error", "(I)I"⟩, prog_1_method_10_code, 2, (some .int), []),
  (⟨q_on 8, "errorCode", "()I"⟩, prog_1_method_5_code, 1, (some .int), []),
  (⟨q_on 8, "errorOffset", "()I"⟩, prog_1_method_6_code, 1, (some .int), []),
  (⟨q_on 8, "forecast", "()LStepperTable$Table;"⟩, prog_1_method_75_code, 1, (some (.object "StepperTable$Table")), []),
  (⟨q_on 8, "home", "(I)I"⟩, prog_1_method_13_code, 2, (some .int), [])]
def q_RI3 : List q_RIt := [(⟨q_on 8, "homeAll", "()I"⟩, prog_1_method_23_code, 4, (some .int), []),
  (⟨q_on 8, "<init>", "()V"⟩, prog_1_method_1_code, 1, none, []),
  (⟨q_on 8, "insert", "(IIII)I"⟩, prog_1_method_25_code, 5, (some .int), []),
  (⟨q_on 8, "jog", "(II)I"⟩, prog_1_method_14_code, 3, (some .int), []),
  (⟨q_on 8, "lastsUntil", "(I)J"⟩, prog_1_method_45_code, 2, (some .long), []),
  (⟨q_on 8, "lineLength", "(I)D"⟩, prog_1_method_40_code, 2, (some .double), []),
  (⟨q_on 8, "loadTable", "()I"⟩, prog_1_method_4_code, 1, (some .int), []),
  (⟨q_on 8, "lostShare", "(I)F"⟩, prog_1_method_58_code, 4, (some .float), []),
  (⟨q_on 8, "meanDuration", "()D"⟩, prog_1_method_57_code, 1, (some .double), []),
  (⟨q_on 8, "meanSpeed", "(I)D"⟩, prog_1_method_42_code, 5, (some .double), []),
  (⟨q_on 8, "move", "(II)I"⟩, prog_1_method_29_code, 3, (some .int), []),
  (⟨q_on 8, "nearest", "(III)I"⟩, prog_1_method_38_code, 4, (some .int), []),
  (⟨q_on 8, "nearestOrder", "(I)I"⟩, prog_1_method_39_code, 5, (some .int), []),
  (⟨q_on 8, "outputByte", "(I)I"⟩, prog_1_method_60_code, 2, (some .int), []),
  (⟨q_on 8, "planned", "()LStepperTable$Plan;"⟩, prog_1_method_74_code, 1, (some (.object "StepperTable$Plan")), []),
  (⟨q_on 8, "pointAt", "(III)I"⟩, prog_1_method_33_code, 5, (some .int), []),
  (⟨q_on 8, "printQueue", "()I"⟩, prog_1_method_59_code, 3, (some .int), []),
  (⟨q_on 8, "queue", "(III)I"⟩, prog_1_method_15_code, 4, (some .int), []),
  (⟨q_on 8, "queueLength", "()D"⟩, prog_1_method_41_code, 5, (some .double), []),
  (⟨q_on 8, "queueTime", "()J"⟩, prog_1_method_48_code, 1, (some .long), []),
  (⟨q_on 8, "quotient", "(II)I"⟩, prog_1_method_78_code, 2, (some .int), []),
  (⟨q_on 8, "rampSteps", "(IZ)I"⟩, prog_1_method_34_code, 3, (some .int), []),
  (⟨q_on 8, "readsClosed", "(I)Z"⟩, prog_1_method_11_code, 2, (some .boolean), []),
  (⟨q_on 8, "reset", "()I"⟩, prog_1_method_18_code, 2, (some .int), []),
  (⟨q_on 8, "restoreState", "()I"⟩, prog_1_method_63_code, 1, (some .int), []),
  (⟨q_on 8, "run", "(I)I"⟩, prog_1_method_17_code, 2, (some .int), []),
  (⟨q_on 8, "runAll", "()I"⟩, prog_1_method_24_code, 1, (some .int), []),
  (⟨q_on 8, "saveState", "()I"⟩, prog_1_method_62_code, 1, (some .int), []),
  (⟨q_on 8, "setCompensation", "(Z)Z"⟩, prog_1_method_19_code, 3, (some .boolean), []),
  (⟨q_on 8, "setDetection", "(Z)Z"⟩, prog_1_method_20_code, 3, (some .boolean), []),
  (⟨q_on 8, "setStart", "(I)I"⟩, prog_1_method_22_code, 3, (some .int), []),
  (⟨q_on 8, "setStuck", "(II)I"⟩, prog_1_method_21_code, 5, (some .int), []),
  (⟨q_on 8, "slackLeft", "(IZ)I"⟩, prog_1_method_55_code, 3, (some .int), []),
  (⟨q_on 8, "slowest", "(I)I"⟩, prog_1_method_35_code, 2, (some .int), []),
  (⟨q_on 8, "speed", "(II)I"⟩, prog_1_method_30_code, 4, (some .int), []),
  (⟨q_on 8, "stepsBehind", "(III)I"⟩, prog_1_method_31_code, 5, (some .int), []),
  (⟨q_on 8, "straightPairs", "()I"⟩, prog_1_method_36_code, 1, (some .int), []),
  (⟨q_on 8, "straightTime", "(III)J"⟩, prog_1_method_49_code, 4, (some .long), []),
  (⟨q_on 8, "swapTargets", "(II)I"⟩, prog_1_method_27_code, 3, (some .int), []),
  (⟨q_on 8, "target", "(II)I"⟩, prog_1_method_28_code, 3, (some .int), [])]
def q_RI4 : List q_RIt := [(⟨q_on 8, "time", "()J"⟩, prog_1_method_12_code, 1, (some .long), []),
  (⟨q_on 8, "travel", "(I)I"⟩, prog_1_method_43_code, 5, (some .int), []),
  (⟨q_on 8, "trueBehind", "(I)I"⟩, prog_1_method_47_code, 2, (some .int), []),
  (⟨q_on 8, "truncateInput", "(I)Z"⟩, prog_1_method_3_code, 2, (some .boolean), []),
  (⟨q_on 8, "turnsAhead", "(I)I"⟩, prog_1_method_44_code, 5, (some .int), []),
  (⟨q_on 8, "undo", "()I"⟩, prog_1_method_61_code, 1, (some .int), []),
  (⟨q_on 8, "unqueue", "()I"⟩, prog_1_method_16_code, 1, (some .int), []),
  (⟨q_on 8, "whereAt", "(II)I"⟩, prog_1_method_46_code, 10, (some .int), []),
  (⟨q_on 8, "wouldErr", "(I)I"⟩, prog_1_method_51_code, 2, (some .int), []),
  (⟨q_on 8, "wouldHome", "(I)I"⟩, prog_1_method_52_code, 2, (some .int), []),
  (⟨q_on 8, "wouldLose", "()I"⟩, prog_1_method_50_code, 2, (some .int), []),
  (⟨q_on 9, "account", "(II)I"⟩, prog_11_method_126_code, 3, (some .int), []),
  (⟨q_on 9, "advanceToken", "()V"⟩, prog_11_method_35_code, 2, none, []),
  (⟨q_on 9, "amount", "(I)I"⟩, prog_11_method_10_code, 1, (some .int), []),
  (⟨q_on 9, "appendInput", "(IIIII)I"⟩, prog_11_method_32_code, 6, (some .int), []),
  (⟨q_on 9, "appendWord", "(I)V"⟩, prog_11_method_31_code, 3, none, []),
  (⟨q_on 9, "axis", "(II)I"⟩, prog_11_method_51_code, 3, (some .int), []),
  (⟨q_on 9, "begins", "()V"⟩, prog_11_method_107_code, 1, none, []),
  (⟨q_on 9, "bestFirst", "()I"⟩, prog_11_method_123_code, 7, (some .int), []),
  (⟨q_on 9, "bestStart", "()I"⟩, prog_11_method_124_code, 7, (some .int), []),
  (⟨q_on 9, "bound", "(IZ)I"⟩, prog_11_method_95_code, 5, (some .int), []),
  (⟨q_on 9, "byteAt", "(I)I"⟩, prog_11_method_34_code, 2, (some .int), []),
  (⟨q_on 9, "clear", "()V"⟩, prog_11_method_7_code, 2, none, []),
  (⟨q_on 9, "closes", "()V"⟩, prog_11_method_8_code, 2, none, []),
  (⟨q_on 9, "coordinate", "(I)I"⟩, prog_11_method_52_code, 2, (some .int), []),
  (⟨q_on 9, "copies", "([JI[JII)V"⟩, prog_11_method_5_code, 6, none, []),
  (⟨q_on 9, "count", "(I)I"⟩, prog_11_method_48_code, 2, (some .int), []),
  (⟨q_on 9, "deviation", "(I)F"⟩, prog_11_method_90_code, 6, (some .float), []),
  (⟨q_on 9, "dropTarget", "(I)I"⟩, prog_11_method_70_code, 3, (some .int), []),
  (⟨q_on 9, "ends", "()V"⟩, prog_11_method_108_code, 1, none, []),
  (⟨q_on 9, "error", "(I)I"⟩, prog_11_method_54_code, 2, (some .int), []),
  (⟨q_on 9, "errorCode", "()I"⟩, prog_11_method_46_code, 1, (some .int), []),
  (⟨q_on 9, "errorOffset", "()I"⟩, prog_11_method_47_code, 1, (some .int), []),
  (⟨q_on 9, "fails", "(ZI)Z"⟩, prog_11_method_4_code, 3, (some .boolean), []),
  (⟨q_on 9, "home", "(I)I"⟩, prog_11_method_58_code, 2, (some .int), []),
  (⟨q_on 9, "homeAll", "()I"⟩, prog_11_method_59_code, 4, (some .int), []),
  (⟨q_on 9, "homedMany", "()I"⟩, prog_11_method_17_code, 3, (some .int), []),
  (⟨q_on 9, "homes", "(I)I"⟩, prog_11_method_16_code, 4, (some .int), []),
  (⟨q_on 9, "inRange", "(JJJ)Z"⟩, prog_11_method_3_code, 6, (some .boolean), []),
  (⟨q_on 9, "<init>", "()V"⟩, prog_11_method_1_code, 1, none, [])]
def q_RI5 : List q_RIt := [(⟨q_on 9, "insert", "(IIII)I"⟩, prog_11_method_67_code, 5, (some .int), []),
  (⟨q_on 9, "isBusy", "()Z"⟩, prog_11_method_57_code, 1, (some .boolean), []),
  (⟨q_on 9, "isPoint", "(III)Z"⟩, prog_11_method_61_code, 4, (some .boolean), []),
  (⟨q_on 9, "jog", "(II)I"⟩, prog_11_method_60_code, 5, (some .int), []),
  (⟨q_on 9, "lastsUntil", "(I)J"⟩, prog_11_method_111_code, 2, (some .long), []),
  (⟨q_on 9, "laysPlan", "()V"⟩, prog_11_method_21_code, 3, none, []),
  (⟨q_on 9, "lineLength", "(I)D"⟩, prog_11_method_104_code, 2, (some .double), []),
  (⟨q_on 9, "loadTable", "()I"⟩, prog_11_method_45_code, 2, (some .int), []),
  (⟨q_on 9, "lostMany", "()I"⟩, prog_11_method_117_code, 1, (some .int), []),
  (⟨q_on 9, "lostShare", "(I)F"⟩, prog_11_method_128_code, 3, (some .float), []),
  (⟨q_on 9, "makes", "(I)I"⟩, prog_11_method_30_code, 4, (some .int), []),
  (⟨q_on 9, "mayQueue", "()Z"⟩, prog_11_method_62_code, 1, (some .boolean), []),
  (⟨q_on 9, "meanDuration", "()D"⟩, prog_11_method_127_code, 1, (some .double), []),
  (⟨q_on 9, "meanSpeed", "(I)D"⟩, prog_11_method_106_code, 5, (some .double), []),
  (⟨q_on 9, "move", "(II)I"⟩, prog_11_method_85_code, 3, (some .int), []),
  (⟨q_on 9, "nearest", "(III)I"⟩, prog_11_method_98_code, 4, (some .int), []),
  (⟨q_on 9, "nearestOf", "(JJJI)I"⟩, prog_11_method_97_code, 15, (some .int), []),
  (⟨q_on 9, "nearestOrder", "(I)I"⟩, prog_11_method_99_code, 5, (some .int), []),
  (⟨q_on 9, "noAxis", "(I)Z"⟩, prog_11_method_49_code, 2, (some .boolean), []),
  (⟨q_on 9, "noMove", "(I)Z"⟩, prog_11_method_69_code, 2, (some .boolean), []),
  (⟨q_on 9, "noPart", "(II)Z"⟩, prog_11_method_81_code, 3, (some .boolean), []),
  (⟨q_on 9, "noSteps", "(III)Z"⟩, prog_11_method_87_code, 4, (some .boolean), []),
  (⟨q_on 9, "notHomed", "(II)Z"⟩, prog_11_method_50_code, 3, (some .boolean), []),
  (⟨q_on 9, "of", "(I)I"⟩, prog_11_method_6_code, 2, (some .int), []),
  (⟨q_on 9, "outputByte", "(I)I"⟩, prog_11_method_132_code, 2, (some .int), []),
  (⟨q_on 9, "pointAt", "(III)I"⟩, prog_11_method_89_code, 4, (some .int), []),
  (⟨q_on 9, "printQueue", "()I"⟩, prog_11_method_131_code, 3, (some .int), []),
  (⟨q_on 9, "queue", "(III)I"⟩, prog_11_method_66_code, 4, (some .int), []),
  (⟨q_on 9, "queueLength", "()D"⟩, prog_11_method_105_code, 4, (some .double), []),
  (⟨q_on 9, "queueTime", "()J"⟩, prog_11_method_112_code, 1, (some .long), []),
  (⟨q_on 9, "queued", "(IIII)I"⟩, prog_11_method_65_code, 6, (some .int), []),
  (⟨q_on 9, "rampSteps", "(IZ)I"⟩, prog_11_method_91_code, 6, (some .int), []),
  (⟨q_on 9, "readText", "()Z"⟩, prog_11_method_44_code, 1, (some .boolean), []),
  (⟨q_on 9, "reads", "(I)Z"⟩, prog_11_method_13_code, 2, (some .boolean), []),
  (⟨q_on 9, "readsClosed", "(I)Z"⟩, prog_11_method_55_code, 2, (some .boolean), []),
  (⟨q_on 9, "remembers", "()V"⟩, prog_11_method_9_code, 1, none, []),
  (⟨q_on 9, "reset", "()I"⟩, prog_11_method_75_code, 2, (some .int), []),
  (⟨q_on 9, "restoreState", "()I"⟩, prog_11_method_135_code, 1, (some .int), []),
  (⟨q_on 9, "run", "(I)I"⟩, prog_11_method_73_code, 2, (some .int), []),
  (⟨q_on 9, "runAll", "()I"⟩, prog_11_method_74_code, 1, (some .int), [])]
def q_RI6 : List q_RIt := [(⟨q_on 9, "saveState", "()I"⟩, prog_11_method_134_code, 1, (some .int), []),
  (⟨q_on 9, "seeks", "(IZIJ)I"⟩, prog_11_method_15_code, 9, (some .int), []),
  (⟨q_on 9, "setCompensation", "(Z)Z"⟩, prog_11_method_77_code, 2, (some .boolean), []),
  (⟨q_on 9, "setDetection", "(Z)Z"⟩, prog_11_method_78_code, 2, (some .boolean), []),
  (⟨q_on 9, "setStart", "(I)I"⟩, prog_11_method_80_code, 3, (some .int), []),
  (⟨q_on 9, "setStuck", "(II)I"⟩, prog_11_method_79_code, 4, (some .int), []),
  (⟨q_on 9, "sets", "(IZ)Z"⟩, prog_11_method_76_code, 4, (some .boolean), []),
  (⟨q_on 9, "signOf", "(I)I"⟩, prog_11_method_11_code, 1, (some .int), []),
  (⟨q_on 9, "slackLeft", "(IZ)I"⟩, prog_11_method_125_code, 3, (some .int), []),
  (⟨q_on 9, "slowTime", "()J"⟩, prog_11_method_14_code, 1, (some .long), []),
  (⟨q_on 9, "slowest", "(I)I"⟩, prog_11_method_92_code, 3, (some .int), []),
  (⟨q_on 9, "speed", "(II)I"⟩, prog_11_method_86_code, 3, (some .int), []),
  (⟨q_on 9, "steps", "(II)Z"⟩, prog_11_method_12_code, 7, (some .boolean), []),
  (⟨q_on 9, "stepsBehind", "(III)I"⟩, prog_11_method_88_code, 4, (some .int), []),
  (⟨q_on 9, "stops", "()V"⟩, prog_11_method_29_code, 2, none, []),
  (⟨q_on 9, "straightMany", "()I"⟩, prog_11_method_93_code, 3, (some .int), []),
  (⟨q_on 9, "straightPairs", "()I"⟩, prog_11_method_94_code, 1, (some .int), []),
  (⟨q_on 9, "straightTime", "(III)J"⟩, prog_11_method_116_code, 6, (some .long), []),
  (⟨q_on 9, "swapTargets", "(II)I"⟩, prog_11_method_72_code, 4, (some .int), []),
  (⟨q_on 9, "target", "(II)I"⟩, prog_11_method_82_code, 3, (some .int), []),
  (⟨q_on 9, "thoughtTime", "(I)J"⟩, prog_11_method_109_code, 5, (some .long), []),
  (⟨q_on 9, "thrown", "()I"⟩, prog_11_method_2_code, 1, (some .int), []),
  (⟨q_on 9, "time", "()J"⟩, prog_11_method_56_code, 1, (some .long), []),
  (⟨q_on 9, "timeOf", "(I)J"⟩, prog_11_method_110_code, 4, (some .long), []),
  (⟨q_on 9, "travel", "(I)I"⟩, prog_11_method_100_code, 4, (some .int), []),
  (⟨q_on 9, "trueBehind", "(I)I"⟩, prog_11_method_115_code, 5, (some .int), []),
  (⟨q_on 9, "truncateInput", "(I)Z"⟩, prog_11_method_33_code, 2, (some .boolean), []),
  (⟨q_on 9, "turnsAhead", "(I)I"⟩, prog_11_method_101_code, 6, (some .int), []),
  (⟨q_on 9, "undo", "()I"⟩, prog_11_method_133_code, 1, (some .int), []),
  (⟨q_on 9, "unqueue", "()I"⟩, prog_11_method_68_code, 1, (some .int), []),
  (⟨q_on 9, "whereAt", "(II)I"⟩, prog_11_method_114_code, 6, (some .int), []),
  (⟨q_on 9, "wouldErr", "(I)I"⟩, prog_11_method_119_code, 5, (some .int), []),
  (⟨q_on 9, "wouldHome", "(I)I"⟩, prog_11_method_120_code, 3, (some .int), []),
  (⟨q_on 9, "wouldLose", "()I"⟩, prog_11_method_118_code, 5, (some .int), []),
  (⟨q_on 9, "write", "(I)V"⟩, prog_11_method_129_code, 2, none, []),
  (⟨q_on 10, "law", "([I)Z"⟩, code, 10, (some .boolean), [])]
def q_RI : List q_RIt := q_RI0 ++ (q_RI1 ++ (q_RI2 ++ (q_RI3 ++ (q_RI4 ++ (q_RI5 ++ (q_RI6))))))
def q_ri (i : Nat) : q_RIt := (q_RI[i]?).getD (⟨"", "", ""⟩, .empty, 0, none, [])
def q_y (i : Nat) : MethodName := (q_ri i).1
def q_bc (i : Nat) : ByteArray := (q_ri i).2.1
def q_mL (i : Nat) : Nat := (q_ri i).2.2.1
def q_rt (i : Nat) : Option FieldType := (q_ri i).2.2.2.1
def q_hh (i : Nat) : List (Nat × Nat × Nat × Nat) := (q_ri i).2.2.2.2
def q_cw (i : Nat) : Cond := match q_hh i with
  | [] => .code (q_y i) (q_bc i) (q_mL i) (q_rt i)
  | h :: t => .codeWith (q_y i) (q_bc i) (q_mL i) (q_rt i) (h :: t)
def q_FL : List (Nat × Nat × Nat × Nat) := [(0, 7, 0, 0), (0, 13, 0, 1), (0, 16, 0, 2), (0, 19, 0, 3), (0, 22, 0, 4), (0, 25, 0, 5), (0, 28, 0, 6), (1, 9, 1, 0), (1, 15, 1, 1), (1, 18, 1, 2), (1, 21, 1, 3), (1, 24, 1, 4), (1, 27, 1, 5), (1, 30, 1, 8), (1, 33, 1, 9), (1, 36, 1, 10), (1, 43, 1, 14), (1, 53, 5, 1), (1, 61, 1, 6), (1, 64, 1, 7), (1, 67, 1, 11), (1, 70, 1, 12), (1, 73, 1, 13), (1, 83, 0, 0), (1, 86, 0, 1), (1, 89, 0, 2), (2, 9, 2, 0), (2, 15, 2, 1), (3, 11, 3, 0), (3, 18, 3, 1), (3, 22, 3, 2), (4, 9, 4, 0), (4, 15, 4, 1), (4, 18, 4, 2), (4, 21, 4, 3), (4, 24, 4, 4), (4, 27, 4, 5), (4, 30, 4, 6), (4, 33, 4, 7), (4, 36, 4, 8), (4, 39, 7, 1), (4, 45, 4, 9), (4, 46, 4, 10), (4, 84, 1, 12), (4, 89, 1, 8), (5, 11, 5, 0), (5, 15, 5, 1), (5, 18, 5, 4), (5, 22, 5, 5), (5, 29, 5, 3), (5, 51, 5, 2), (5, 54, 5, 6), (5, 57, 2, 1), (6, 12, 6, 0), (6, 18, 6, 1), (6, 21, 6, 2), (6, 27, 6, 3), (6, 31, 6, 4), (6, 42, 5, 2), (6, 49, 6, 5), (6, 53, 6, 6), (6, 56, 6, 7), (6, 59, 6, 8), (6, 63, 6, 9), (6, 66, 6, 10), (6, 76, 1, 11), (6, 79, 1, 14), (6, 83, 0, 2), (6, 139, 0, 4), (7, 9, 7, 0), (7, 15, 7, 1), (8, 10, 8, 0), (8, 19, 8, 1), (8, 26, 8, 2), (8, 30, 8, 3), (8, 33, 8, 4), (8, 39, 8, 5), (8, 46, 8, 6), (8, 53, 8, 7), (8, 57, 8, 8), (8, 60, 2, 1), (8, 72, 5, 4), (8, 82, 8, 9), (8, 86, 6, 0), (8, 90, 1, 0), (8, 93, 6, 1), (8, 96, 6, 2), (8, 99, 5, 5), (8, 102, 6, 4), (8, 105, 6, 5), (8, 108, 6, 6), (8, 111, 6, 7), (8, 114, 6, 3), (8, 117, 7, 1), (8, 124, 3, 1), (8, 149, 1, 12), (8, 159, 6, 8), (8, 182, 1, 6), (8, 228, 1, 9), (8, 298, 4, 9), (8, 368, 1, 14), (8, 377, 6, 10), (8, 380, 6, 9), (8, 383, 0, 0), (8, 386, 0, 1), (8, 389, 0, 2), (8, 416, 1, 11), (9, 7, 9, 0), (9, 13, 9, 1), (9, 16, 9, 2), (9, 19, 9, 3), (9, 22, 9, 4), (9, 25, 9, 8), (9, 29, 9, 9), (9, 32, 9, 10), (9, 35, 9, 11), (9, 38, 9, 12), (9, 41, 9, 13), (9, 44, 9, 16), (9, 48, 9, 25), (9, 51, 9, 26), (9, 60, 9, 7), (9, 73, 9, 5), (9, 157, 9, 14), (9, 167, 9, 19), (9, 173, 9, 20), (9, 176, 9, 21), (9, 179, 9, 22), (9, 190, 9, 17), (9, 193, 9, 18), (9, 215, 9, 23), (9, 264, 9, 15), (9, 267, 9, 6), (9, 391, 9, 24), (9, 407, 9, 27)]
def q_CL : List (Nat × Nat × Nat) := [(1, 40, 0), (3, 9, 6), (6, 9, 1), (6, 24, 7), (8, 7, 2), (8, 16, 5), (8, 23, 6), (8, 36, 3), (8, 43, 4), (8, 50, 7), (10, 8, 8), (10, 152, 9)]
def q_XL : List (Nat × Nat × Nat) := [(8, 125, 0), (8, 203, 3), (8, 404, 2), (8, 409, 1), (10, 13, 0), (10, 19, 1), (10, 24, 2), (10, 47, 3)]
def q_ML : List (Nat × Nat × Nat) := [(1, 47, 77), (1, 76, 41), (1, 79, 42), (1, 92, 50), (1, 99, 52), (1, 102, 48), (2, 19, 57), (3, 25, 64), (3, 29, 80), (4, 49, 79), (4, 55, 67), (4, 81, 68), (4, 180, 70), (5, 32, 73), (5, 35, 72), (5, 47, 76), (5, 62, 59), (6, 35, 54), (6, 39, 90), (6, 45, 74), (6, 69, 46), (6, 73, 91), (6, 95, 79), (6, 118, 53), (6, 122, 88), (6, 126, 52), (6, 136, 56), (6, 151, 48), (6, 158, 94), (6, 162, 89), (8, 38, 62), (8, 64, 58), (8, 68, 78), (8, 75, 87), (8, 79, 61), (8, 120, 82), (8, 132, 102), (8, 135, 79), (8, 139, 45), (8, 143, 49), (8, 146, 103), (8, 155, 52), (8, 163, 105), (8, 166, 107), (8, 169, 63), (8, 173, 81), (8, 178, 84), (8, 185, 106), (8, 189, 108), (8, 192, 91), (8, 215, 134), (8, 219, 86), (8, 223, 89), (8, 235, 104), (8, 241, 69), (8, 288, 93), (8, 319, 70), (8, 335, 118), (8, 339, 71), (8, 343, 101), (8, 346, 90), (8, 351, 66), (8, 355, 85), (8, 358, 80), (8, 364, 55), (8, 372, 44), (8, 392, 57), (8, 398, 59), (8, 427, 51), (9, 54, 182), (9, 57, 183), (9, 76, 185), (9, 82, 223), (9, 86, 233), (9, 90, 252), (9, 94, 249), (9, 98, 241), (9, 108, 173), (9, 129, 247), (9, 146, 205), (9, 154, 254), (9, 160, 175), (9, 163, 198), (9, 170, 181), (9, 212, 172), (9, 261, 232), (9, 273, 193), (9, 277, 196), (9, 280, 218), (9, 285, 222), (9, 291, 201), (9, 294, 235), (9, 297, 197), (9, 304, 211), (9, 307, 177), (9, 317, 189), (9, 320, 202), (9, 324, 230), (9, 328, 219), (9, 338, 255), (9, 341, 210), (9, 344, 246), (9, 347, 220), (9, 358, 221), (9, 368, 216), (9, 384, 260), (9, 388, 263), (9, 398, 208), (9, 410, 274), (10, 7, 110), (10, 15, 97), (10, 21, 109), (10, 26, 115), (10, 29, 142), (10, 33, 119), (10, 36, 123), (10, 39, 137), (10, 43, 166), (10, 49, 145), (10, 52, 151), (10, 55, 150), (10, 58, 159), (10, 61, 130), (10, 64, 154), (10, 67, 155), (10, 70, 111), (10, 74, 120), (10, 77, 122), (10, 81, 112), (10, 84, 158), (10, 87, 135), (10, 90, 141), (10, 94, 153), (10, 97, 100), (10, 100, 132), (10, 103, 124), (10, 107, 167), (10, 110, 162), (10, 113, 125), (10, 117, 129), (10, 120, 161), (10, 123, 164), (10, 126, 157), (10, 130, 168), (10, 133, 169), (10, 136, 99), (10, 139, 152), (10, 142, 95), (10, 145, 127), (10, 148, 144), (10, 151, 121), (10, 154, 199), (10, 155, 96), (10, 159, 174), (10, 160, 163), (10, 163, 266), (10, 164, 126), (10, 167, 207), (10, 168, 116), (10, 171, 191), (10, 172, 117), (10, 175, 192), (10, 176, 5), (10, 181, 186), (10, 182, 261), (10, 185, 1), (10, 188, 176), (10, 189, 4), (10, 191, 184), (10, 192, 8), (10, 194, 190), (10, 195, 22), (10, 197, 234), (10, 198, 160), (10, 202, 262), (10, 203, 9), (10, 205, 194), (10, 206, 12), (10, 208, 203), (10, 209, 20), (10, 212, 227), (10, 213, 37), (10, 216, 269), (10, 217, 24), (10, 219, 238), (10, 220, 143), (10, 223, 236), (10, 224, 148), (10, 228, 242), (10, 229, 149), (10, 232, 243), (10, 233, 26), (10, 235, 245), (10, 236, 25), (10, 238, 244), (10, 239, 33), (10, 241, 259), (10, 242, 17), (10, 244, 214), (10, 245, 29), (10, 247, 251), (10, 248, 30), (10, 250, 253), (10, 251, 6), (10, 254, 187), (10, 255, 10), (10, 257, 195), (10, 258, 146), (10, 261, 239), (10, 262, 11), (10, 265, 200), (10, 266, 7), (10, 268, 188), (10, 269, 32), (10, 271, 258), (10, 272, 19), (10, 274, 225), (10, 275, 21), (10, 278, 231), (10, 279, 28), (10, 281, 250), (10, 282, 156), (10, 285, 256), (10, 286, 3), (10, 288, 180), (10, 289, 131), (10, 292, 215), (10, 293, 18), (10, 295, 217), (10, 296, 13), (10, 298, 204), (10, 299, 38), (10, 301, 270), (10, 302, 35), (10, 304, 265), (10, 305, 14), (10, 307, 206), (10, 308, 138), (10, 312, 228), (10, 313, 16), (10, 315, 213), (10, 316, 34), (10, 318, 264), (10, 319, 36), (10, 321, 267), (10, 322, 139), (10, 325, 229), (10, 326, 31), (10, 328, 257), (10, 329, 170), (10, 332, 273), (10, 333, 39), (10, 335, 271), (10, 336, 40), (10, 338, 272), (10, 339, 98), (10, 342, 178), (10, 343, 2), (10, 345, 179), (10, 346, 27), (10, 348, 248), (10, 349, 0), (10, 351, 171), (10, 352, 128), (10, 355, 212), (10, 356, 15), (10, 358, 209), (10, 359, 136), (10, 362, 226), (10, 363, 133), (10, 366, 224), (10, 367, 165), (10, 370, 268), (10, 371, 147), (10, 374, 240), (10, 375, 23), (10, 377, 237)]
def q_NS : List (Nat × Nat × Nat) := [(1, 57, 114), (4, 63, 114), (4, 73, 113), (5, 25, 114), (5, 43, 113), (6, 115, 140), (7, 19, 114), (7, 23, 113)]
def q_NI : List (Nat × Nat × Nat) := [(1, 42, 43), (3, 17, 83), (6, 11, 47), (6, 26, 92), (8, 9, 60), (8, 18, 75), (8, 25, 83), (8, 45, 65), (8, 52, 92)]
def q_OL : List (Nat × Nat) := [(0, 1), (1, 3), (2, 3), (3, 3), (4, 3), (5, 3), (6, 3), (7, 3), (8, 1), (9, 1)]
def q_MM : List (Nat × Nat × Nat) := [(3, 33, 7), (4, 67, 7), (7, 35, 6), (8, 280, 6), (8, 285, 7), (9, 111, 6), (9, 116, 7)]
def q_CI : List (Nat × Nat × Int) := [(6, 114, 1000000)]
def q_CJ : List (Nat × Nat × Int) := [(6, 134, 4), (8, 299, 1000000), (9, 63, 100), (9, 65, 200), (9, 67, 1000), (9, 69, 5), (9, 71, 2), (9, 80, 1000000), (9, 102, 4), (9, 152, 3), (9, 182, 97), (9, 184, 122), (9, 186, 48), (9, 188, 57), (9, 271, 6), (9, 283, 12), (9, 300, (-100)), (9, 302, 16), (9, 353, 7), (9, 382, (-1))]
def q_TH : List (Nat × Nat × Nat × Nat) := [(8, 125, 0, 129), (8, 203, 3, 207), (8, 404, 2, 408), (8, 409, 1, 413)]
def q_SL : List (Nat × Nat) := [(8, 127), (8, 176), (8, 205), (8, 211), (8, 213), (8, 226), (8, 231), (8, 233), (8, 253), (8, 292), (8, 322), (8, 406), (8, 411), (8, 414), (8, 419), (8, 421), (8, 423), (8, 425), (8, 431), (8, 433)]
def q_VL : List Nat := [41, 42, 44, 45, 46, 48, 49, 50, 51, 52, 53, 54, 55, 56, 57, 58, 59, 61, 63, 64, 66, 67, 68, 69, 70, 71, 72, 73, 74, 76, 77, 78, 79, 80, 81, 82, 84, 85, 86, 87, 88, 89, 90, 91, 93, 94, 95, 96, 97, 98, 99, 100, 101, 102, 103, 104, 105, 106, 107, 108, 109, 110, 111, 112, 115, 116, 117, 118, 119, 120, 122, 123, 124, 125, 126, 127, 128, 129, 130, 131, 132, 133, 134, 135, 136, 137, 138, 139, 141, 142, 143, 144, 145, 146, 147, 148, 149, 150, 151, 152, 153, 154, 155, 156, 157, 158, 159, 160, 161, 162, 163, 164, 165, 166, 167, 168, 169, 170, 171, 172, 174, 175, 176, 177, 178, 179, 180, 181, 182, 183, 184, 186, 187, 188, 189, 190, 191, 192, 193, 194, 195, 196, 197, 200, 201, 202, 203, 204, 205, 206, 207, 208, 209, 210, 211, 212, 213, 214, 215, 216, 217, 218, 219, 220, 221, 222, 223, 224, 225, 226, 227, 228, 229, 230, 231, 232, 233, 234, 235, 236, 237, 238, 239, 240, 241, 242, 243, 244, 245, 246, 248, 249, 250, 251, 252, 253, 254, 255, 256, 257, 258, 259, 260, 261, 262, 263, 264, 265, 266, 267, 268, 269, 270, 271, 272, 273, 274]
def q_ST : List Nat := [0, 1, 2, 3, 4, 5, 6, 7, 8, 9, 10, 11, 12, 13, 14, 15, 16, 17, 18, 19, 20, 21, 22, 23, 24, 25, 26, 27, 28, 29, 30, 31, 32, 33, 34, 35, 36, 37, 38, 39, 40, 113, 114, 140, 173, 185, 198, 247]
def q_IL : List Nat := [43, 47, 60, 62, 65, 75, 83, 92, 121, 199]
def q_sg (n : Nat) : List Cond := match n with
  | 0 => k2_sels lw_privs
  | 1 => tables_1_1
  | 2 => tables_1_2
  | 3 => tables_1_3
  | 4 => tables_1_4
  | 5 => tables_1_5
  | 6 => tables_1_6
  | 7 => tables_1_7
  | 8 => tables_1_8
  | _ => tables_1_9
theorem q_sg_in : ∀ n, ∀ w ∈ q_sg n, w ∈ lw_tbl := by
  intro n w hw
  have hT : ∀ w ∈ tables_1, w ∈ lw_tbl := fun w h => List.mem_append_right _ h
  match n, hw with
  | 0, hw => exact List.mem_append_left _ hw
  | 1, hw => exact hT w (List.mem_append_left _ hw)
  | 2, hw => exact hT w (List.mem_append_right _ (List.mem_append_left _ hw))
  | 3, hw => exact hT w (List.mem_append_right _ (List.mem_append_right _ (List.mem_append_left _ hw)))
  | 4, hw => exact hT w (List.mem_append_right _ (List.mem_append_right _ (List.mem_append_right _ (List.mem_append_left _ hw))))
  | 5, hw => exact hT w (List.mem_append_right _ (List.mem_append_right _ (List.mem_append_right _ (List.mem_append_right _ (List.mem_append_left _ hw)))))
  | 6, hw => exact hT w (List.mem_append_right _ (List.mem_append_right _ (List.mem_append_right _ (List.mem_append_right _ (List.mem_append_right _ (List.mem_append_left _ hw))))))
  | 7, hw => exact hT w (List.mem_append_right _ (List.mem_append_right _ (List.mem_append_right _ (List.mem_append_right _ (List.mem_append_right _ (List.mem_append_right _ (List.mem_append_left _ hw)))))))
  | 8, hw => exact hT w (List.mem_append_right _ (List.mem_append_right _ (List.mem_append_right _ (List.mem_append_right _ (List.mem_append_right _ (List.mem_append_right _ (List.mem_append_right _ (List.mem_append_left _ hw))))))))
  | n + 9, hw => exact hT w (List.mem_append_right _ (List.mem_append_right _ (List.mem_append_right _ (List.mem_append_right _ (List.mem_append_right _ (List.mem_append_right _ (List.mem_append_right _ (List.mem_append_right _ hw))))))))
theorem q_gp (ws : List Cond) (ps : List (Nat × Nat)) (h1 : ws = ps.filterMap (fun q => (q_sg q.1)[q.2]?)) (h2 : ws.all goodWord = true) : GoodIn lw_tbl ws := by
  intro w hw
  have h3 := List.all_eq_true.mp h2 w hw
  rw [h1] at hw
  obtain ⟨q, -, hq⟩ := List.mem_filterMap.mp hw
  exact ⟨q_sg_in _ _ (List.mem_of_getElem? hq), good_of_word h3⟩
def q_G_u0 : List Cond := u_ws (q_on 0) q_CF0 7
theorem q_G_u0_g : GoodIn lw_tbl q_G_u0 := q_gp _ [(1, 118), (1, 120), (1, 122), (1, 124), (1, 126), (1, 128), (1, 130)] (by decide +kernel) (by decide +kernel)
def q_G_u1 : List Cond := u_ws (q_on 1) q_CF1 15
theorem q_G_u1_g : GoodIn lw_tbl q_G_u1 := q_gp _ [(1, 163), (1, 165), (1, 167), (1, 169), (1, 171), (1, 173), (1, 175), (1, 177), (1, 179), (1, 181), (1, 183), (1, 185), (1, 187), (1, 189), (1, 191)] (by decide +kernel) (by decide +kernel)
def q_G_u2 : List Cond := u_ws (q_on 2) q_CF2 2
theorem q_G_u2_g : GoodIn lw_tbl q_G_u2 := q_gp _ [(1, 43), (1, 45)] (by decide +kernel) (by decide +kernel)
def q_G_u3 : List Cond := u_ws (q_on 3) q_CF3 3
theorem q_G_u3_g : GoodIn lw_tbl q_G_u3 := q_gp _ [(2, 29), (2, 31), (2, 33)] (by decide +kernel) (by decide +kernel)
def q_G_u4 : List Cond := u_ws (q_on 4) q_CF4 11
theorem q_G_u4_g : GoodIn lw_tbl q_G_u4 := q_gp _ [(2, 54), (2, 56), (2, 58), (2, 60), (2, 62), (2, 64), (2, 66), (2, 68), (2, 70), (2, 72), (2, 74)] (by decide +kernel) (by decide +kernel)
def q_G_u5 : List Cond := u_ws (q_on 5) q_CF5 7
theorem q_G_u5_g : GoodIn lw_tbl q_G_u5 := q_gp _ [(1, 66), (1, 68), (1, 70), (1, 72), (1, 74), (1, 76), (1, 78)] (by decide +kernel) (by decide +kernel)
def q_G_u6 : List Cond := u_ws (q_on 6) q_CF6 11
theorem q_G_u6_g : GoodIn lw_tbl q_G_u6 := q_gp _ [(1, 233), (1, 235), (1, 237), (1, 239), (2, 1), (2, 3), (2, 5), (2, 7), (2, 9), (2, 11), (2, 13)] (by decide +kernel) (by decide +kernel)
def q_G_u7 : List Cond := u_ws (q_on 7) q_CF7 2
theorem q_G_u7_g : GoodIn lw_tbl q_G_u7 := q_gp _ [(1, 205), (1, 207)] (by decide +kernel) (by decide +kernel)
def q_G_u8 : List Cond := u_ws (q_on 8) q_CF8 10
theorem q_G_u8_g : GoodIn lw_tbl q_G_u8 := q_gp _ [(2, 89), (2, 91), (2, 93), (2, 95), (2, 97), (2, 99), (2, 101), (2, 103), (2, 105), (2, 107)] (by decide +kernel) (by decide +kernel)
def q_G_u9 : List Cond := u_ws (q_on 9) q_CF9 28
theorem q_G_u9_g : GoodIn lw_tbl q_G_u9 := q_gp _ [(7, 65), (7, 67), (7, 69), (7, 71), (7, 73), (7, 75), (7, 77), (7, 79), (7, 81), (7, 83), (7, 85), (7, 87), (7, 89), (7, 91), (7, 93), (7, 95), (7, 97), (7, 99), (7, 101), (7, 103), (7, 105), (7, 107), (7, 109), (7, 111), (7, 113), (7, 115), (7, 117), (7, 119)] (by decide +kernel) (by decide +kernel)
def q_G_f : List Cond := q_FL.map (fun q => Cond.fieldLink (q_on q.1) q.2.1 (q_cF q.2.2.1 q.2.2.2).1 (q_cF q.2.2.1 q.2.2.2).2.1 (q_cF q.2.2.1 q.2.2.2).2.2.1)
theorem q_G_f_g : GoodIn lw_tbl q_G_f := q_gp _ [(1, 100), (1, 103), (1, 106), (1, 110), (1, 112), (1, 114), (1, 116), (1, 133), (1, 135), (1, 138), (1, 140), (1, 142), (1, 143), (1, 147), (1, 149), (1, 151), (1, 160), (1, 57), (1, 144), (1, 146), (1, 152), (1, 155), (1, 159), (1, 101), (1, 104), (1, 107), (1, 39), (1, 40), (2, 25), (2, 26), (2, 28), (2, 42), (2, 43), (2, 44), (2, 45), (2, 46), (2, 47), (2, 48), (2, 49), (2, 50), (1, 202), (2, 51), (2, 53), (1, 156), (1, 148), (1, 55), (1, 56), (1, 61), (1, 63), (1, 60), (1, 59), (1, 65), (1, 42), (1, 210), (1, 212), (1, 214), (1, 216), (1, 218), (1, 58), (1, 220), (1, 223), (1, 225), (1, 227), (1, 229), (1, 231), (1, 153), (1, 161), (1, 108), (1, 113), (1, 200), (1, 201), (2, 79), (2, 80), (2, 81), (2, 82), (2, 83), (2, 84), (2, 85), (2, 86), (2, 87), (1, 41), (1, 62), (2, 88), (1, 211), (1, 134), (1, 213), (1, 215), (1, 64), (1, 219), (1, 222), (1, 224), (1, 226), (1, 217), (1, 204), (2, 27), (1, 158), (1, 228), (1, 145), (1, 150), (2, 52), (1, 162), (1, 232), (1, 230), (1, 102), (1, 105), (1, 109), (1, 154), (7, 37), (7, 38), (7, 39), (7, 40), (7, 41), (7, 45), (7, 46), (7, 47), (7, 48), (7, 49), (7, 50), (7, 53), (7, 62), (7, 63), (7, 44), (7, 42), (7, 51), (7, 56), (7, 57), (7, 58), (7, 59), (7, 54), (7, 55), (7, 60), (7, 52), (7, 43), (7, 61), (7, 64)] (by decide +kernel) (by decide +kernel)
def q_G_c : List Cond := q_CL.map (fun q => Cond.classLink (q_on q.1) q.2.1 (q_on q.2.2))
theorem q_G_c_g : GoodIn lw_tbl q_G_c := q_gp _ [(1, 94), (2, 22), (1, 88), (1, 194), (1, 33), (1, 49), (1, 82), (2, 16), (2, 36), (2, 77), (1, 25), (7, 18)] (by decide +kernel) (by decide +kernel)
def q_G_x : List Cond := q_XL.map (fun q => Cond.classLink (q_on q.1) q.2.1 (q_ex q.2.2))
theorem q_G_x_g : GoodIn lw_tbl q_G_x := q_gp _ [(4, 162), (5, 172), (5, 39), (5, 2), (4, 153), (4, 233), (5, 30), (5, 167)] (by decide +kernel) (by decide +kernel)
def q_G_i : List Cond := (List.range 10).map (fun n => Cond.instantiable (q_on n) (q_cN n))
theorem q_G_i_g : GoodIn lw_tbl q_G_i := q_gp _ [(1, 95), (1, 89), (1, 34), (2, 17), (2, 37), (1, 50), (1, 83), (1, 195), (1, 26), (7, 19)] (by decide +kernel) (by decide +kernel)
def q_G_t : List Cond := (List.range 11).map (fun n => Cond.initialized (q_on n))
theorem q_G_t_g : GoodIn lw_tbl q_G_t := q_gp _ [(1, 6), (1, 5), (1, 2), (1, 8), (1, 9), (1, 3), (1, 4), (1, 7), (1, 1), (1, 10), (1, 0)] (by decide +kernel) (by decide +kernel)
def q_G_e : List Cond := (List.range 4).map (fun n => Cond.initialized (q_ex n))
theorem q_G_e_g : GoodIn lw_tbl q_G_e := q_gp _ [(1, 18), (1, 19), (1, 20), (1, 22)] (by decide +kernel) (by decide +kernel)
def q_G_a : List Cond := [Cond.arrayClass .int, .arrayClass .byte, .arrayClass .long, .arrayClass .double]
theorem q_G_a_g : GoodIn lw_tbl q_G_a := q_gp _ [(1, 81), (1, 48), (7, 122), (9, 202)] (by decide +kernel) (by decide +kernel)
def q_G_m0 : List Cond := (List.range' 0 60).map q_cw
theorem q_G_m0_g : GoodIn lw_tbl q_G_m0 := q_gp _ [(6, 234), (4, 232), (6, 216), (6, 115), (5, 29), (4, 152), (6, 32), (6, 63), (5, 57), (5, 79), (6, 48), (6, 55), (5, 116), (6, 132), (6, 162), (7, 5), (6, 169), (5, 231), (6, 124), (6, 81), (5, 129), (6, 93), (5, 68), (7, 12), (5, 194), (5, 211), (5, 203), (6, 223), (6, 104), (6, 10), (6, 20), (6, 194), (6, 70), (5, 219), (6, 177), (6, 155), (6, 186), (5, 166), (6, 140), (6, 202), (6, 209), (3, 42), (3, 87), (1, 98), (7, 2), (5, 22), (3, 83), (1, 92), (3, 224), (5, 26), (3, 228), (5, 141), (5, 76), (5, 101), (3, 36), (6, 231), (5, 113), (2, 121), (2, 117), (2, 152)] (by decide +kernel) (by decide +kernel)
def q_G_m1 : List Cond := (List.range' 60 60).map q_cw
theorem q_G_m1_g : GoodIn lw_tbl q_G_m1 := q_gp _ [(1, 37), (3, 51), (2, 20), (3, 71), (3, 75), (2, 40), (3, 120), (3, 128), (3, 176), (4, 33), (4, 71), (4, 67), (2, 148), (2, 137), (2, 235), (1, 53), (2, 144), (3, 22), (2, 133), (3, 124), (3, 79), (5, 97), (4, 161), (1, 86), (5, 125), (4, 88), (3, 192), (3, 32), (3, 214), (3, 100), (3, 46), (3, 91), (1, 198), (4, 41), (4, 14), (6, 238), (2, 113), (4, 237), (4, 97), (6, 220), (6, 119), (5, 150), (5, 1), (5, 38), (5, 227), (5, 87), (5, 137), (5, 92), (5, 146), (5, 34), (4, 157), (6, 36), (6, 67), (2, 140), (3, 14), (5, 61), (3, 55), (3, 59), (4, 92), (5, 83)] (by decide +kernel) (by decide +kernel)
def q_G_m2 : List Cond := (List.range' 120 60).map q_cw
theorem q_G_m2_g : GoodIn lw_tbl q_G_m2 := q_gp _ [(6, 52), (1, 29), (6, 59), (5, 120), (6, 136), (6, 166), (2, 129), (7, 9), (4, 118), (6, 173), (5, 235), (4, 37), (6, 128), (4, 136), (3, 116), (6, 85), (4, 125), (5, 133), (4, 54), (4, 63), (3, 155), (6, 97), (5, 72), (3, 67), (7, 16), (5, 198), (3, 112), (4, 149), (3, 104), (3, 108), (5, 215), (5, 207), (6, 227), (6, 108), (6, 14), (6, 24), (4, 29), (6, 198), (6, 74), (5, 223), (3, 63), (6, 181), (6, 159), (2, 125), (6, 190), (4, 141), (5, 171), (6, 144), (6, 206), (6, 213), (4, 84), (9, 165), (7, 152), (8, 73), (7, 130), (7, 134), (7, 238), (8, 97), (9, 145), (9, 157)] (by decide +kernel) (by decide +kernel)
def q_G_m3 : List Cond := (List.range' 180 60).map q_cw
theorem q_G_m3_g : GoodIn lw_tbl q_G_m3 := q_gp _ [(9, 49), (7, 156), (7, 27), (7, 36), (8, 7), (7, 148), (7, 225), (9, 25), (8, 125), (8, 113), (8, 15), (7, 217), (7, 221), (7, 230), (8, 35), (8, 65), (7, 234), (8, 47), (7, 141), (7, 22), (8, 117), (8, 39), (8, 84), (8, 69), (9, 96), (8, 149), (9, 76), (7, 145), (9, 133), (9, 173), (8, 167), (8, 92), (9, 169), (9, 92), (8, 236), (9, 53), (9, 57), (9, 64), (8, 2), (8, 129), (8, 232), (9, 17), (8, 11), (7, 213), (9, 189), (9, 21), (9, 177), (8, 80), (9, 88), (9, 109), (8, 88), (9, 37), (7, 164), (8, 27), (8, 23), (8, 43), (8, 204), (9, 201), (8, 163), (8, 200)] (by decide +kernel) (by decide +kernel)
def q_G_m4 : List Cond := (List.range' 240 35).map q_cw
theorem q_G_m4_g : GoodIn lw_tbl q_G_m4 := q_gp _ [(9, 197), (8, 56), (8, 208), (8, 216), (8, 224), (8, 220), (8, 212), (8, 76), (9, 161), (8, 51), (9, 41), (9, 9), (8, 60), (9, 13), (8, 196), (8, 145), (9, 45), (9, 125), (8, 137), (8, 228), (9, 104), (7, 126), (8, 31), (9, 100), (9, 68), (9, 121), (7, 138), (9, 72), (9, 193), (8, 121), (9, 113), (9, 137), (9, 141), (9, 129), (9, 181)] (by decide +kernel) (by decide +kernel)
def q_G_vi : List Cond := q_VL.map (fun i => Cond.instanceMethod (q_y i))
theorem q_G_vi_g : GoodIn lw_tbl q_G_vi := q_gp _ [(3, 40), (3, 85), (7, 0), (5, 20), (3, 81), (3, 222), (5, 24), (3, 227), (5, 139), (5, 74), (5, 99), (3, 34), (6, 229), (5, 111), (2, 119), (2, 115), (2, 150), (3, 49), (3, 69), (3, 74), (3, 118), (3, 127), (3, 175), (4, 31), (4, 69), (4, 65), (2, 147), (2, 136), (2, 233), (2, 143), (3, 20), (2, 131), (3, 122), (3, 77), (5, 95), (4, 159), (5, 123), (4, 86), (3, 190), (3, 30), (3, 212), (3, 98), (3, 44), (3, 89), (4, 39), (4, 12), (6, 236), (2, 111), (4, 235), (4, 95), (6, 218), (6, 117), (5, 149), (5, 0), (5, 37), (5, 226), (5, 86), (5, 136), (5, 91), (5, 145), (5, 32), (4, 155), (6, 34), (6, 65), (5, 59), (3, 53), (3, 57), (4, 91), (5, 81), (6, 50), (6, 57), (5, 118), (6, 134), (6, 164), (2, 127), (7, 7), (4, 116), (6, 171), (5, 233), (4, 35), (6, 126), (4, 134), (3, 115), (6, 83), (4, 123), (5, 131), (4, 52), (4, 61), (6, 95), (5, 70), (3, 65), (7, 14), (5, 196), (3, 110), (4, 147), (3, 102), (3, 106), (5, 213), (5, 205), (6, 225), (6, 106), (6, 12), (6, 22), (4, 27), (6, 196), (6, 72), (5, 221), (3, 61), (6, 179), (6, 157), (2, 123), (6, 188), (4, 139), (5, 169), (6, 142), (6, 204), (6, 211), (4, 82), (9, 163), (7, 151), (7, 128), (7, 133), (7, 236), (8, 96), (9, 143), (9, 155), (9, 47), (7, 155), (7, 26), (7, 35), (8, 5), (7, 223), (9, 23), (8, 123), (8, 112), (8, 13), (7, 215), (7, 219), (7, 229), (8, 33), (8, 63), (7, 233), (8, 46), (8, 115), (8, 38), (8, 83), (8, 67), (9, 94), (8, 148), (9, 74), (7, 143), (9, 132), (9, 171), (8, 166), (8, 91), (9, 167), (9, 90), (8, 234), (9, 51), (9, 56), (9, 62), (8, 1), (8, 128), (8, 231), (9, 16), (8, 10), (7, 212), (9, 187), (9, 19), (9, 175), (8, 78), (9, 86), (9, 107), (8, 87), (9, 35), (7, 163), (8, 26), (8, 21), (8, 42), (8, 202), (9, 199), (8, 161), (8, 198), (9, 195), (8, 55), (8, 206), (8, 214), (8, 222), (8, 218), (8, 211), (9, 159), (8, 50), (9, 39), (9, 7), (8, 59), (9, 11), (8, 195), (8, 144), (9, 43), (9, 123), (8, 135), (8, 226), (9, 103), (7, 124), (8, 29), (9, 99), (9, 66), (9, 119), (7, 136), (9, 70), (9, 191), (8, 119), (9, 111), (9, 135), (9, 139), (9, 127), (9, 180)] (by decide +kernel) (by decide +kernel)
def q_G_vs : List Cond := q_VL.map (fun i => Cond.selects (q_y i).cls (q_y i) (q_y i))
theorem q_G_vs_g : GoodIn lw_tbl q_G_vs := q_gp _ [(3, 41), (3, 86), (7, 1), (5, 21), (3, 82), (3, 223), (5, 25), (0, 21), (5, 140), (5, 75), (5, 100), (3, 35), (6, 230), (5, 112), (2, 120), (2, 116), (2, 151), (3, 50), (3, 70), (0, 10), (3, 119), (0, 12), (0, 16), (4, 32), (4, 70), (4, 66), (0, 2), (0, 0), (2, 234), (0, 1), (3, 21), (2, 132), (3, 123), (3, 78), (5, 96), (4, 160), (5, 124), (4, 87), (3, 191), (3, 31), (3, 213), (3, 99), (3, 45), (3, 90), (4, 40), (4, 13), (6, 237), (2, 112), (4, 236), (4, 96), (6, 219), (6, 118), (0, 35), (0, 28), (0, 29), (0, 37), (0, 30), (0, 33), (0, 31), (0, 34), (5, 33), (4, 156), (6, 35), (6, 66), (5, 60), (3, 54), (3, 58), (0, 25), (5, 82), (6, 51), (6, 58), (5, 119), (6, 135), (6, 165), (2, 128), (7, 8), (4, 117), (6, 172), (5, 234), (4, 36), (6, 127), (4, 135), (0, 11), (6, 84), (4, 124), (5, 132), (4, 53), (4, 62), (6, 96), (5, 71), (3, 66), (7, 15), (5, 197), (3, 111), (4, 148), (3, 103), (3, 107), (5, 214), (5, 206), (6, 226), (6, 107), (6, 13), (6, 23), (4, 28), (6, 197), (6, 73), (5, 222), (3, 62), (6, 180), (6, 158), (2, 124), (6, 189), (4, 140), (5, 170), (6, 143), (6, 205), (6, 212), (4, 83), (9, 164), (0, 45), (7, 129), (0, 44), (7, 237), (0, 72), (9, 144), (9, 156), (9, 48), (0, 46), (0, 42), (0, 43), (8, 6), (7, 224), (9, 24), (8, 124), (0, 76), (8, 14), (7, 216), (7, 220), (0, 57), (8, 34), (8, 64), (0, 58), (0, 65), (8, 116), (0, 63), (0, 69), (8, 68), (9, 95), (0, 81), (9, 75), (7, 144), (0, 102), (9, 172), (0, 84), (0, 71), (9, 168), (9, 91), (8, 235), (9, 52), (0, 97), (9, 63), (0, 59), (0, 77), (0, 93), (0, 96), (0, 60), (0, 56), (9, 188), (9, 20), (9, 176), (8, 79), (9, 87), (9, 108), (0, 70), (9, 36), (0, 47), (0, 62), (8, 22), (0, 64), (8, 203), (9, 200), (8, 162), (8, 199), (9, 196), (0, 67), (8, 207), (8, 215), (8, 223), (8, 219), (0, 92), (9, 160), (0, 66), (9, 40), (9, 8), (0, 68), (9, 12), (0, 91), (0, 80), (9, 44), (9, 124), (8, 136), (8, 227), (0, 100), (7, 125), (8, 30), (0, 99), (9, 67), (9, 120), (7, 137), (9, 71), (9, 192), (8, 120), (9, 112), (9, 136), (9, 140), (9, 128), (0, 105)] (by decide +kernel) (by decide +kernel)
def q_G_ss : List Cond := q_ST.map (fun i => Cond.static (q_y i))
theorem q_G_ss_g : GoodIn lw_tbl q_G_ss := q_gp _ [(6, 233), (4, 231), (6, 215), (6, 114), (5, 28), (4, 151), (6, 31), (6, 62), (5, 56), (5, 78), (6, 47), (6, 54), (5, 115), (6, 131), (6, 161), (7, 4), (6, 168), (5, 230), (6, 123), (6, 80), (5, 128), (6, 92), (5, 67), (7, 11), (5, 193), (5, 210), (5, 202), (6, 222), (6, 103), (6, 9), (6, 19), (6, 193), (6, 69), (5, 218), (6, 176), (6, 154), (6, 185), (5, 165), (6, 139), (6, 201), (6, 208), (2, 139), (3, 13), (3, 154), (8, 72), (7, 147), (7, 140), (8, 75)] (by decide +kernel) (by decide +kernel)
def q_G_ii : List Cond := q_IL.map (fun i => Cond.instanceMethod (q_y i))
theorem q_G_ii_g : GoodIn lw_tbl q_G_ii := q_gp _ [(1, 97), (1, 91), (1, 36), (2, 19), (2, 39), (1, 52), (1, 85), (1, 197), (1, 28), (7, 21)] (by decide +kernel) (by decide +kernel)
def q_G_ml : List Cond := q_ML.map (fun q => Cond.methodLink (q_on q.1) q.2.1 (q_y q.2.2))
theorem q_G_ml_g : GoodIn lw_tbl q_G_ml := q_gp _ [(3, 37), (3, 39), (3, 84), (3, 225), (5, 102), (5, 103), (2, 118), (3, 72), (3, 76), (3, 121), (3, 125), (3, 173), (4, 68), (2, 134), (2, 145), (2, 141), (2, 149), (3, 33), (3, 43), (3, 47), (3, 80), (3, 88), (3, 201), (5, 98), (3, 211), (5, 104), (5, 110), (3, 221), (4, 11), (4, 25), (2, 18), (2, 114), (2, 130), (3, 29), (3, 48), (4, 158), (4, 238), (5, 18), (5, 19), (5, 23), (5, 35), (5, 73), (5, 84), (5, 89), (3, 68), (5, 94), (5, 122), (5, 134), (5, 143), (5, 153), (3, 113), (3, 189), (3, 97), (5, 224), (4, 30), (4, 38), (6, 137), (4, 89), (4, 64), (5, 147), (6, 199), (3, 117), (4, 85), (4, 93), (6, 228), (6, 239), (4, 126), (4, 137), (5, 138), (7, 24), (7, 33), (7, 146), (7, 210), (8, 24), (8, 57), (8, 48), (8, 53), (8, 71), (8, 74), (8, 146), (8, 193), (7, 131), (7, 139), (7, 153), (7, 149), (7, 161), (7, 227), (7, 231), (7, 239), (8, 8), (8, 36), (8, 40), (8, 44), (8, 89), (8, 94), (8, 110), (8, 81), (8, 85), (8, 126), (8, 142), (8, 164), (8, 209), (8, 229), (9, 14), (9, 54), (9, 101), (9, 97), (9, 130), (9, 178), (4, 154), (4, 234), (5, 31), (5, 58), (5, 69), (5, 80), (5, 117), (5, 130), (5, 168), (5, 195), (5, 204), (5, 212), (5, 220), (5, 232), (6, 11), (6, 21), (6, 33), (6, 49), (6, 56), (6, 64), (6, 71), (6, 82), (6, 94), (6, 105), (6, 116), (6, 125), (6, 133), (6, 141), (6, 156), (6, 163), (6, 170), (6, 178), (6, 187), (6, 195), (6, 203), (6, 210), (6, 217), (6, 224), (6, 235), (7, 6), (7, 13), (1, 27), (7, 20), (2, 110), (7, 127), (2, 122), (7, 135), (2, 126), (7, 142), (3, 52), (7, 214), (3, 56), (7, 218), (4, 150), (7, 222), (7, 123), (4, 230), (7, 235), (5, 27), (8, 4), (5, 55), (8, 12), (5, 66), (8, 20), (3, 60), (8, 28), (5, 77), (8, 32), (5, 114), (8, 66), (5, 127), (8, 77), (5, 164), (8, 118), (5, 192), (8, 160), (3, 64), (8, 201), (3, 101), (8, 205), (3, 105), (8, 213), (5, 201), (8, 217), (5, 209), (8, 221), (5, 217), (8, 225), (5, 229), (8, 233), (6, 8), (9, 6), (6, 18), (9, 10), (6, 30), (9, 22), (6, 46), (8, 62), (3, 109), (8, 197), (6, 53), (8, 114), (6, 61), (8, 122), (6, 68), (8, 134), (6, 79), (9, 18), (6, 91), (9, 34), (6, 102), (9, 38), (4, 26), (9, 42), (6, 113), (9, 46), (4, 34), (9, 50), (6, 122), (9, 61), (6, 130), (9, 93), (6, 138), (9, 110), (6, 153), (9, 118), (6, 160), (9, 73), (4, 51), (9, 85), (6, 167), (9, 89), (6, 175), (9, 65), (6, 184), (9, 69), (4, 60), (9, 106), (6, 192), (9, 122), (4, 81), (9, 126), (6, 200), (9, 134), (6, 207), (9, 138), (4, 94), (9, 142), (6, 214), (9, 154), (6, 221), (9, 158), (6, 232), (9, 162), (4, 115), (9, 166), (7, 3), (9, 170), (4, 122), (9, 174), (4, 133), (9, 186), (4, 138), (9, 190), (4, 146), (9, 194), (7, 10), (9, 198)] (by decide +kernel) (by decide +kernel)
def q_G_ol : List Cond := q_OL.map (fun q => Cond.methodLink (q_on q.1) q.2 objectInit)
theorem q_G_ol_g : GoodIn lw_tbl q_G_ol := q_gp _ [(1, 99), (1, 93), (1, 38), (2, 21), (2, 41), (1, 54), (1, 87), (1, 199), (1, 30), (7, 23)] (by decide +kernel) (by decide +kernel)
def q_G_oc : List Cond := [Cond.instanceMethod objectInit, .code objectInit ⟨#[0xb1]⟩ 1 none]
theorem q_G_oc_g : GoodIn lw_tbl q_G_oc := q_gp _ [(1, 31), (1, 32)] (by decide +kernel) (by decide +kernel)
def q_G_mm : List Cond := q_MM.map (fun q => Cond.methodLink (q_on q.1) q.2.1 (if q.2.2 = 6 then Lib.Math.max.name else Lib.Math.min.name))
theorem q_G_mm_g : GoodIn lw_tbl q_G_mm := q_gp _ [(3, 94), (3, 156), (4, 24), (6, 120), (6, 121), (8, 154), (8, 155)] (by decide +kernel) (by decide +kernel)
def q_G_mc : List Cond := [Cond.static Lib.Math.max.name, .static Lib.Math.min.name, .initialized "java/lang/Math", .code Lib.Math.max.name Lib.Math.max.code 2 (some .int), .code Lib.Math.min.name Lib.Math.min.code 2 (some .int)]
theorem q_G_mc_g : GoodIn lw_tbl q_G_mc := q_gp _ [(3, 150), (3, 95), (1, 21), (3, 151), (3, 96)] (by decide +kernel) (by decide +kernel)
def q_G_ci : List Cond := q_CI.map (fun q => Cond.constant (q_on q.1) q.2.1 (Int32.ofInt q.2.2))
theorem q_G_ci_g : GoodIn lw_tbl q_G_ci := q_gp _ [(3, 215)] (by decide +kernel) (by decide +kernel)
def q_G_cj : List Cond := q_CJ.map (fun q => Cond.constantLong (q_on q.1) q.2.1 (Int64.ofInt q.2.2))
theorem q_G_cj_g : GoodIn lw_tbl q_G_cj := q_gp _ [(5, 109), (6, 174), (7, 28), (7, 29), (7, 30), (7, 31), (7, 32), (8, 52), (8, 61), (8, 192), (7, 157), (7, 158), (7, 159), (7, 160), (7, 226), (8, 3), (8, 70), (8, 93), (8, 237), (9, 105)] (by decide +kernel) (by decide +kernel)
def q_GL : List Cond := q_G_u0 ++ (q_G_u1 ++ (q_G_u2 ++ (q_G_u3 ++ (q_G_u4 ++ (q_G_u5 ++ (q_G_u6 ++ (q_G_u7 ++ (q_G_u8 ++ (q_G_u9 ++ (q_G_f ++ (q_G_c ++ (q_G_x ++ (q_G_i ++ (q_G_t ++ (q_G_e ++ (q_G_a ++ (q_G_m0 ++ (q_G_m1 ++ (q_G_m2 ++ (q_G_m3 ++ (q_G_m4 ++ (q_G_vi ++ (q_G_vs ++ (q_G_ss ++ (q_G_ii ++ (q_G_ml ++ (q_G_ol ++ (q_G_oc ++ (q_G_mm ++ (q_G_mc ++ (q_G_ci ++ (q_G_cj))))))))))))))))))))))))))))))))
theorem q_ga {big a b : List Cond} (ha : GoodIn big a) (hb : GoodIn big b) : GoodIn big (a ++ b) := fun w h => (List.mem_append.mp h).elim (ha w) (hb w)
theorem q_GL_g : GoodIn lw_tbl q_GL := q_ga q_G_u0_g (q_ga q_G_u1_g (q_ga q_G_u2_g (q_ga q_G_u3_g (q_ga q_G_u4_g (q_ga q_G_u5_g (q_ga q_G_u6_g (q_ga q_G_u7_g (q_ga q_G_u8_g (q_ga q_G_u9_g (q_ga q_G_f_g (q_ga q_G_c_g (q_ga q_G_x_g (q_ga q_G_i_g (q_ga q_G_t_g (q_ga q_G_e_g (q_ga q_G_a_g (q_ga q_G_m0_g (q_ga q_G_m1_g (q_ga q_G_m2_g (q_ga q_G_m3_g (q_ga q_G_m4_g (q_ga q_G_vi_g (q_ga q_G_vs_g (q_ga q_G_ss_g (q_ga q_G_ii_g (q_ga q_G_ml_g (q_ga q_G_ol_g (q_ga q_G_oc_g (q_ga q_G_mm_g (q_ga q_G_mc_g (q_ga q_G_ci_g (q_G_cj_g))))))))))))))))))))))))))))))))
theorem q_G_u0_m {w : Cond} (h : w ∈ q_G_u0) : w ∈ q_GL := List.mem_append_left _ h
theorem q_G_u1_m {w : Cond} (h : w ∈ q_G_u1) : w ∈ q_GL := List.mem_append_right _ (List.mem_append_left _ h)
theorem q_G_u2_m {w : Cond} (h : w ∈ q_G_u2) : w ∈ q_GL := List.mem_append_right _ (List.mem_append_right _ (List.mem_append_left _ h))
theorem q_G_u3_m {w : Cond} (h : w ∈ q_G_u3) : w ∈ q_GL := List.mem_append_right _ (List.mem_append_right _ (List.mem_append_right _ (List.mem_append_left _ h)))
theorem q_G_u4_m {w : Cond} (h : w ∈ q_G_u4) : w ∈ q_GL := List.mem_append_right _ (List.mem_append_right _ (List.mem_append_right _ (List.mem_append_right _ (List.mem_append_left _ h))))
theorem q_G_u5_m {w : Cond} (h : w ∈ q_G_u5) : w ∈ q_GL := List.mem_append_right _ (List.mem_append_right _ (List.mem_append_right _ (List.mem_append_right _ (List.mem_append_right _ (List.mem_append_left _ h)))))
theorem q_G_u6_m {w : Cond} (h : w ∈ q_G_u6) : w ∈ q_GL := List.mem_append_right _ (List.mem_append_right _ (List.mem_append_right _ (List.mem_append_right _ (List.mem_append_right _ (List.mem_append_right _ (List.mem_append_left _ h))))))
theorem q_G_u7_m {w : Cond} (h : w ∈ q_G_u7) : w ∈ q_GL := List.mem_append_right _ (List.mem_append_right _ (List.mem_append_right _ (List.mem_append_right _ (List.mem_append_right _ (List.mem_append_right _ (List.mem_append_right _ (List.mem_append_left _ h)))))))
theorem q_G_u8_m {w : Cond} (h : w ∈ q_G_u8) : w ∈ q_GL := List.mem_append_right _ (List.mem_append_right _ (List.mem_append_right _ (List.mem_append_right _ (List.mem_append_right _ (List.mem_append_right _ (List.mem_append_right _ (List.mem_append_right _ (List.mem_append_left _ h))))))))
theorem q_G_u9_m {w : Cond} (h : w ∈ q_G_u9) : w ∈ q_GL := List.mem_append_right _ (List.mem_append_right _ (List.mem_append_right _ (List.mem_append_right _ (List.mem_append_right _ (List.mem_append_right _ (List.mem_append_right _ (List.mem_append_right _ (List.mem_append_right _ (List.mem_append_left _ h)))))))))
theorem q_G_f_m {w : Cond} (h : w ∈ q_G_f) : w ∈ q_GL := List.mem_append_right _ (List.mem_append_right _ (List.mem_append_right _ (List.mem_append_right _ (List.mem_append_right _ (List.mem_append_right _ (List.mem_append_right _ (List.mem_append_right _ (List.mem_append_right _ (List.mem_append_right _ (List.mem_append_left _ h))))))))))
theorem q_G_c_m {w : Cond} (h : w ∈ q_G_c) : w ∈ q_GL := List.mem_append_right _ (List.mem_append_right _ (List.mem_append_right _ (List.mem_append_right _ (List.mem_append_right _ (List.mem_append_right _ (List.mem_append_right _ (List.mem_append_right _ (List.mem_append_right _ (List.mem_append_right _ (List.mem_append_right _ (List.mem_append_left _ h)))))))))))
theorem q_G_x_m {w : Cond} (h : w ∈ q_G_x) : w ∈ q_GL := List.mem_append_right _ (List.mem_append_right _ (List.mem_append_right _ (List.mem_append_right _ (List.mem_append_right _ (List.mem_append_right _ (List.mem_append_right _ (List.mem_append_right _ (List.mem_append_right _ (List.mem_append_right _ (List.mem_append_right _ (List.mem_append_right _ (List.mem_append_left _ h))))))))))))
theorem q_G_i_m {w : Cond} (h : w ∈ q_G_i) : w ∈ q_GL := List.mem_append_right _ (List.mem_append_right _ (List.mem_append_right _ (List.mem_append_right _ (List.mem_append_right _ (List.mem_append_right _ (List.mem_append_right _ (List.mem_append_right _ (List.mem_append_right _ (List.mem_append_right _ (List.mem_append_right _ (List.mem_append_right _ (List.mem_append_right _ (List.mem_append_left _ h)))))))))))))
theorem q_G_t_m {w : Cond} (h : w ∈ q_G_t) : w ∈ q_GL := List.mem_append_right _ (List.mem_append_right _ (List.mem_append_right _ (List.mem_append_right _ (List.mem_append_right _ (List.mem_append_right _ (List.mem_append_right _ (List.mem_append_right _ (List.mem_append_right _ (List.mem_append_right _ (List.mem_append_right _ (List.mem_append_right _ (List.mem_append_right _ (List.mem_append_right _ (List.mem_append_left _ h))))))))))))))
theorem q_G_e_m {w : Cond} (h : w ∈ q_G_e) : w ∈ q_GL := List.mem_append_right _ (List.mem_append_right _ (List.mem_append_right _ (List.mem_append_right _ (List.mem_append_right _ (List.mem_append_right _ (List.mem_append_right _ (List.mem_append_right _ (List.mem_append_right _ (List.mem_append_right _ (List.mem_append_right _ (List.mem_append_right _ (List.mem_append_right _ (List.mem_append_right _ (List.mem_append_right _ (List.mem_append_left _ h)))))))))))))))
theorem q_G_a_m {w : Cond} (h : w ∈ q_G_a) : w ∈ q_GL := List.mem_append_right _ (List.mem_append_right _ (List.mem_append_right _ (List.mem_append_right _ (List.mem_append_right _ (List.mem_append_right _ (List.mem_append_right _ (List.mem_append_right _ (List.mem_append_right _ (List.mem_append_right _ (List.mem_append_right _ (List.mem_append_right _ (List.mem_append_right _ (List.mem_append_right _ (List.mem_append_right _ (List.mem_append_right _ (List.mem_append_left _ h))))))))))))))))
theorem q_G_m0_m {w : Cond} (h : w ∈ q_G_m0) : w ∈ q_GL := List.mem_append_right _ (List.mem_append_right _ (List.mem_append_right _ (List.mem_append_right _ (List.mem_append_right _ (List.mem_append_right _ (List.mem_append_right _ (List.mem_append_right _ (List.mem_append_right _ (List.mem_append_right _ (List.mem_append_right _ (List.mem_append_right _ (List.mem_append_right _ (List.mem_append_right _ (List.mem_append_right _ (List.mem_append_right _ (List.mem_append_right _ (List.mem_append_left _ h)))))))))))))))))
theorem q_G_m1_m {w : Cond} (h : w ∈ q_G_m1) : w ∈ q_GL := List.mem_append_right _ (List.mem_append_right _ (List.mem_append_right _ (List.mem_append_right _ (List.mem_append_right _ (List.mem_append_right _ (List.mem_append_right _ (List.mem_append_right _ (List.mem_append_right _ (List.mem_append_right _ (List.mem_append_right _ (List.mem_append_right _ (List.mem_append_right _ (List.mem_append_right _ (List.mem_append_right _ (List.mem_append_right _ (List.mem_append_right _ (List.mem_append_right _ (List.mem_append_left _ h))))))))))))))))))
theorem q_G_m2_m {w : Cond} (h : w ∈ q_G_m2) : w ∈ q_GL := List.mem_append_right _ (List.mem_append_right _ (List.mem_append_right _ (List.mem_append_right _ (List.mem_append_right _ (List.mem_append_right _ (List.mem_append_right _ (List.mem_append_right _ (List.mem_append_right _ (List.mem_append_right _ (List.mem_append_right _ (List.mem_append_right _ (List.mem_append_right _ (List.mem_append_right _ (List.mem_append_right _ (List.mem_append_right _ (List.mem_append_right _ (List.mem_append_right _ (List.mem_append_right _ (List.mem_append_left _ h)))))))))))))))))))
theorem q_G_m3_m {w : Cond} (h : w ∈ q_G_m3) : w ∈ q_GL := List.mem_append_right _ (List.mem_append_right _ (List.mem_append_right _ (List.mem_append_right _ (List.mem_append_right _ (List.mem_append_right _ (List.mem_append_right _ (List.mem_append_right _ (List.mem_append_right _ (List.mem_append_right _ (List.mem_append_right _ (List.mem_append_right _ (List.mem_append_right _ (List.mem_append_right _ (List.mem_append_right _ (List.mem_append_right _ (List.mem_append_right _ (List.mem_append_right _ (List.mem_append_right _ (List.mem_append_right _ (List.mem_append_left _ h))))))))))))))))))))
theorem q_G_m4_m {w : Cond} (h : w ∈ q_G_m4) : w ∈ q_GL := List.mem_append_right _ (List.mem_append_right _ (List.mem_append_right _ (List.mem_append_right _ (List.mem_append_right _ (List.mem_append_right _ (List.mem_append_right _ (List.mem_append_right _ (List.mem_append_right _ (List.mem_append_right _ (List.mem_append_right _ (List.mem_append_right _ (List.mem_append_right _ (List.mem_append_right _ (List.mem_append_right _ (List.mem_append_right _ (List.mem_append_right _ (List.mem_append_right _ (List.mem_append_right _ (List.mem_append_right _ (List.mem_append_right _ (List.mem_append_left _ h)))))))))))))))))))))
theorem q_G_vi_m {w : Cond} (h : w ∈ q_G_vi) : w ∈ q_GL := List.mem_append_right _ (List.mem_append_right _ (List.mem_append_right _ (List.mem_append_right _ (List.mem_append_right _ (List.mem_append_right _ (List.mem_append_right _ (List.mem_append_right _ (List.mem_append_right _ (List.mem_append_right _ (List.mem_append_right _ (List.mem_append_right _ (List.mem_append_right _ (List.mem_append_right _ (List.mem_append_right _ (List.mem_append_right _ (List.mem_append_right _ (List.mem_append_right _ (List.mem_append_right _ (List.mem_append_right _ (List.mem_append_right _ (List.mem_append_right _ (List.mem_append_left _ h))))))))))))))))))))))
theorem q_G_vs_m {w : Cond} (h : w ∈ q_G_vs) : w ∈ q_GL := List.mem_append_right _ (List.mem_append_right _ (List.mem_append_right _ (List.mem_append_right _ (List.mem_append_right _ (List.mem_append_right _ (List.mem_append_right _ (List.mem_append_right _ (List.mem_append_right _ (List.mem_append_right _ (List.mem_append_right _ (List.mem_append_right _ (List.mem_append_right _ (List.mem_append_right _ (List.mem_append_right _ (List.mem_append_right _ (List.mem_append_right _ (List.mem_append_right _ (List.mem_append_right _ (List.mem_append_right _ (List.mem_append_right _ (List.mem_append_right _ (List.mem_append_right _ (List.mem_append_left _ h)))))))))))))))))))))))
theorem q_G_ss_m {w : Cond} (h : w ∈ q_G_ss) : w ∈ q_GL := List.mem_append_right _ (List.mem_append_right _ (List.mem_append_right _ (List.mem_append_right _ (List.mem_append_right _ (List.mem_append_right _ (List.mem_append_right _ (List.mem_append_right _ (List.mem_append_right _ (List.mem_append_right _ (List.mem_append_right _ (List.mem_append_right _ (List.mem_append_right _ (List.mem_append_right _ (List.mem_append_right _ (List.mem_append_right _ (List.mem_append_right _ (List.mem_append_right _ (List.mem_append_right _ (List.mem_append_right _ (List.mem_append_right _ (List.mem_append_right _ (List.mem_append_right _ (List.mem_append_right _ (List.mem_append_left _ h))))))))))))))))))))))))
theorem q_G_ii_m {w : Cond} (h : w ∈ q_G_ii) : w ∈ q_GL := List.mem_append_right _ (List.mem_append_right _ (List.mem_append_right _ (List.mem_append_right _ (List.mem_append_right _ (List.mem_append_right _ (List.mem_append_right _ (List.mem_append_right _ (List.mem_append_right _ (List.mem_append_right _ (List.mem_append_right _ (List.mem_append_right _ (List.mem_append_right _ (List.mem_append_right _ (List.mem_append_right _ (List.mem_append_right _ (List.mem_append_right _ (List.mem_append_right _ (List.mem_append_right _ (List.mem_append_right _ (List.mem_append_right _ (List.mem_append_right _ (List.mem_append_right _ (List.mem_append_right _ (List.mem_append_right _ (List.mem_append_left _ h)))))))))))))))))))))))))
theorem q_G_ml_m {w : Cond} (h : w ∈ q_G_ml) : w ∈ q_GL := List.mem_append_right _ (List.mem_append_right _ (List.mem_append_right _ (List.mem_append_right _ (List.mem_append_right _ (List.mem_append_right _ (List.mem_append_right _ (List.mem_append_right _ (List.mem_append_right _ (List.mem_append_right _ (List.mem_append_right _ (List.mem_append_right _ (List.mem_append_right _ (List.mem_append_right _ (List.mem_append_right _ (List.mem_append_right _ (List.mem_append_right _ (List.mem_append_right _ (List.mem_append_right _ (List.mem_append_right _ (List.mem_append_right _ (List.mem_append_right _ (List.mem_append_right _ (List.mem_append_right _ (List.mem_append_right _ (List.mem_append_right _ (List.mem_append_left _ h))))))))))))))))))))))))))
theorem q_G_ol_m {w : Cond} (h : w ∈ q_G_ol) : w ∈ q_GL := List.mem_append_right _ (List.mem_append_right _ (List.mem_append_right _ (List.mem_append_right _ (List.mem_append_right _ (List.mem_append_right _ (List.mem_append_right _ (List.mem_append_right _ (List.mem_append_right _ (List.mem_append_right _ (List.mem_append_right _ (List.mem_append_right _ (List.mem_append_right _ (List.mem_append_right _ (List.mem_append_right _ (List.mem_append_right _ (List.mem_append_right _ (List.mem_append_right _ (List.mem_append_right _ (List.mem_append_right _ (List.mem_append_right _ (List.mem_append_right _ (List.mem_append_right _ (List.mem_append_right _ (List.mem_append_right _ (List.mem_append_right _ (List.mem_append_right _ (List.mem_append_left _ h)))))))))))))))))))))))))))
theorem q_G_oc_m {w : Cond} (h : w ∈ q_G_oc) : w ∈ q_GL := List.mem_append_right _ (List.mem_append_right _ (List.mem_append_right _ (List.mem_append_right _ (List.mem_append_right _ (List.mem_append_right _ (List.mem_append_right _ (List.mem_append_right _ (List.mem_append_right _ (List.mem_append_right _ (List.mem_append_right _ (List.mem_append_right _ (List.mem_append_right _ (List.mem_append_right _ (List.mem_append_right _ (List.mem_append_right _ (List.mem_append_right _ (List.mem_append_right _ (List.mem_append_right _ (List.mem_append_right _ (List.mem_append_right _ (List.mem_append_right _ (List.mem_append_right _ (List.mem_append_right _ (List.mem_append_right _ (List.mem_append_right _ (List.mem_append_right _ (List.mem_append_right _ (List.mem_append_left _ h))))))))))))))))))))))))))))
theorem q_G_mm_m {w : Cond} (h : w ∈ q_G_mm) : w ∈ q_GL := List.mem_append_right _ (List.mem_append_right _ (List.mem_append_right _ (List.mem_append_right _ (List.mem_append_right _ (List.mem_append_right _ (List.mem_append_right _ (List.mem_append_right _ (List.mem_append_right _ (List.mem_append_right _ (List.mem_append_right _ (List.mem_append_right _ (List.mem_append_right _ (List.mem_append_right _ (List.mem_append_right _ (List.mem_append_right _ (List.mem_append_right _ (List.mem_append_right _ (List.mem_append_right _ (List.mem_append_right _ (List.mem_append_right _ (List.mem_append_right _ (List.mem_append_right _ (List.mem_append_right _ (List.mem_append_right _ (List.mem_append_right _ (List.mem_append_right _ (List.mem_append_right _ (List.mem_append_right _ (List.mem_append_left _ h)))))))))))))))))))))))))))))
theorem q_G_mc_m {w : Cond} (h : w ∈ q_G_mc) : w ∈ q_GL := List.mem_append_right _ (List.mem_append_right _ (List.mem_append_right _ (List.mem_append_right _ (List.mem_append_right _ (List.mem_append_right _ (List.mem_append_right _ (List.mem_append_right _ (List.mem_append_right _ (List.mem_append_right _ (List.mem_append_right _ (List.mem_append_right _ (List.mem_append_right _ (List.mem_append_right _ (List.mem_append_right _ (List.mem_append_right _ (List.mem_append_right _ (List.mem_append_right _ (List.mem_append_right _ (List.mem_append_right _ (List.mem_append_right _ (List.mem_append_right _ (List.mem_append_right _ (List.mem_append_right _ (List.mem_append_right _ (List.mem_append_right _ (List.mem_append_right _ (List.mem_append_right _ (List.mem_append_right _ (List.mem_append_right _ (List.mem_append_left _ h))))))))))))))))))))))))))))))
theorem q_G_ci_m {w : Cond} (h : w ∈ q_G_ci) : w ∈ q_GL := List.mem_append_right _ (List.mem_append_right _ (List.mem_append_right _ (List.mem_append_right _ (List.mem_append_right _ (List.mem_append_right _ (List.mem_append_right _ (List.mem_append_right _ (List.mem_append_right _ (List.mem_append_right _ (List.mem_append_right _ (List.mem_append_right _ (List.mem_append_right _ (List.mem_append_right _ (List.mem_append_right _ (List.mem_append_right _ (List.mem_append_right _ (List.mem_append_right _ (List.mem_append_right _ (List.mem_append_right _ (List.mem_append_right _ (List.mem_append_right _ (List.mem_append_right _ (List.mem_append_right _ (List.mem_append_right _ (List.mem_append_right _ (List.mem_append_right _ (List.mem_append_right _ (List.mem_append_right _ (List.mem_append_right _ (List.mem_append_right _ (List.mem_append_left _ h)))))))))))))))))))))))))))))))
theorem q_G_cj_m {w : Cond} (h : w ∈ q_G_cj) : w ∈ q_GL := List.mem_append_right _ (List.mem_append_right _ (List.mem_append_right _ (List.mem_append_right _ (List.mem_append_right _ (List.mem_append_right _ (List.mem_append_right _ (List.mem_append_right _ (List.mem_append_right _ (List.mem_append_right _ (List.mem_append_right _ (List.mem_append_right _ (List.mem_append_right _ (List.mem_append_right _ (List.mem_append_right _ (List.mem_append_right _ (List.mem_append_right _ (List.mem_append_right _ (List.mem_append_right _ (List.mem_append_right _ (List.mem_append_right _ (List.mem_append_right _ (List.mem_append_right _ (List.mem_append_right _ (List.mem_append_right _ (List.mem_append_right _ (List.mem_append_right _ (List.mem_append_right _ (List.mem_append_right _ (List.mem_append_right _ (List.mem_append_right _ (List.mem_append_right _ (h))))))))))))))))))))))))))))))))
end
