/-! Part 11: the tables agree with the class files: looked at by the kernel, instruction by instruction. Printed by wip/tools/gen11.py. -/
abbrev q_an (a b : Bool) : Bool := bif a then b else false
noncomputable def q_cn (i : Nat) : Nat := (q_mt i).2.1.2.1
def q_m1 (l : List Nat) (a : Nat) : Bool := l.any (fun q => Nat.beq q a)
def q_m2 (l : List (Nat × Nat)) (a b : Nat) : Bool := l.any (fun q => Nat.beq q.1 a && Nat.beq q.2 b)
def q_m3 (l : List (Nat × Nat × Nat)) (a b c : Nat) : Bool := l.any (fun q => Nat.beq q.1 a && (Nat.beq q.2.1 b && Nat.beq q.2.2 c))
def q_m4 (l : List (Nat × Nat × Nat × Nat)) (a b c d : Nat) : Bool := l.any (fun q => Nat.beq q.1 a && (Nat.beq q.2.1 b && (Nat.beq q.2.2.1 c && Nat.beq q.2.2.2 d)))
noncomputable def q_mZ (l : List (Nat × Nat × Int)) (a b : Nat) (c : Int) : Bool := l.any (fun q => Nat.beq q.1 a && (Nat.beq q.2.1 b && q_ieq q.2.2 c))
theorem q_m1_i {l : List Nat} {a : Nat} (h : q_m1 l a = true) : a ∈ l := by
  obtain ⟨q, hq, h⟩ := List.any_eq_true.mp h
  rw [← q_bq h]; exact hq
theorem q_m2_i {l : List (Nat × Nat)} {a b : Nat} (h : q_m2 l a b = true) : (a, b) ∈ l := by
  obtain ⟨q, hq, h⟩ := List.any_eq_true.mp h
  obtain ⟨h1, h2⟩ := (Bool.and_eq_true _ _).mp h
  rw [← q_bq h1, ← q_bq h2]; exact hq
theorem q_m3_i {l : List (Nat × Nat × Nat)} {a b c : Nat} (h : q_m3 l a b c = true) : (a, b, c) ∈ l := by
  obtain ⟨q, hq, h⟩ := List.any_eq_true.mp h
  obtain ⟨h1, h2⟩ := (Bool.and_eq_true _ _).mp h
  obtain ⟨h3, h4⟩ := (Bool.and_eq_true _ _).mp h2
  rw [← q_bq h1, ← q_bq h3, ← q_bq h4]; exact hq
theorem q_m4_i {l : List (Nat × Nat × Nat × Nat)} {a b c d : Nat} (h : q_m4 l a b c d = true) : (a, b, c, d) ∈ l := by
  obtain ⟨q, hq, h⟩ := List.any_eq_true.mp h
  obtain ⟨h1, h2⟩ := (Bool.and_eq_true _ _).mp h
  obtain ⟨h3, h4⟩ := (Bool.and_eq_true _ _).mp h2
  obtain ⟨h5, h6⟩ := (Bool.and_eq_true _ _).mp h4
  rw [← q_bq h1, ← q_bq h3, ← q_bq h5, ← q_bq h6]; exact hq
theorem q_mZ_i {l : List (Nat × Nat × Int)} {a b : Nat} {c : Int} (h : q_mZ l a b c = true) : (a, b, c) ∈ l := by
  obtain ⟨q, hq, h⟩ := List.any_eq_true.mp h
  obtain ⟨h1, h2⟩ := (Bool.and_eq_true _ _).mp h
  obtain ⟨h3, h4⟩ := (Bool.and_eq_true _ _).mp h2
  rw [← q_bq h1, ← q_bq h3, ← q_ieq_i h4]; exact hq
def q_tc : FieldType → Nat
  | .int => 0
  | .boolean => 1
  | .long => 2
  | .object _ => 3
  | .array _ => 3
  | _ => 9
def q_nh (x : Nat) : Bool := match q_hh x with
  | [] => true
  | _ :: _ => false
noncomputable def q_vx (i pc : Nat) (ins : Instr) (len x y : Nat) (v : Int) : Bool := match ins with
  | .aload_n k => q_an (Nat.beq len 1) (Nat.beq k.val x)
  | .aload k => q_an (Nat.beq len 2) (Nat.beq k x)
  | .astore_n k => q_an (Nat.beq len 1) (q_an (Nat.beq k.val x) (Nat.ble (x + 1) (q_mL i)))
  | .astore k => q_an (Nat.beq len 2) (q_an (Nat.beq k x) (Nat.ble (x + 1) (q_mL i)))
  | .iload_n k => q_an (Nat.beq len 1) (Nat.beq k.val x)
  | .iload k => q_an (Nat.beq len 2) (Nat.beq k x)
  | .istore_n k => q_an (Nat.beq len 1) (q_an (Nat.beq k.val x) (Nat.ble (x + 1) (q_mL i)))
  | .istore k => q_an (Nat.beq len 2) (q_an (Nat.beq k x) (Nat.ble (x + 1) (q_mL i)))
  | .lload_n k => q_an (Nat.beq len 1) (Nat.beq k.val x)
  | .lload k => q_an (Nat.beq len 2) (Nat.beq k x)
  | .lstore_n k => q_an (Nat.beq len 1) (q_an (Nat.beq k.val x) (Nat.ble (x + 2) (q_mL i)))
  | .lstore k => q_an (Nat.beq len 2) (q_an (Nat.beq k x) (Nat.ble (x + 2) (q_mL i)))
  | .fload_n k => q_an (Nat.beq len 1) (Nat.beq k.val x)
  | .fload k => q_an (Nat.beq len 2) (Nat.beq k x)
  | .fstore_n k => q_an (Nat.beq len 1) (q_an (Nat.beq k.val x) (Nat.ble (x + 1) (q_mL i)))
  | .fstore k => q_an (Nat.beq len 2) (q_an (Nat.beq k x) (Nat.ble (x + 1) (q_mL i)))
  | .dload_n k => q_an (Nat.beq len 1) (Nat.beq k.val x)
  | .dload k => q_an (Nat.beq len 2) (Nat.beq k x)
  | .dstore_n k => q_an (Nat.beq len 1) (q_an (Nat.beq k.val x) (Nat.ble (x + 2) (q_mL i)))
  | .dstore k => q_an (Nat.beq len 2) (q_an (Nat.beq k x) (Nat.ble (x + 2) (q_mL i)))
  | .iconst _ => Nat.beq len 1
  | .bipush n => q_an (Nat.beq len 2) (decide ((Int8.ofInt n).toInt32 = Int32.ofInt n))
  | .sipush n => q_an (Nat.beq len 3) (decide ((Int16.ofInt n).toInt32 = Int32.ofInt n))
  | .lconst k => q_an (Nat.beq len 1) (decide (Int64.ofNat k.val = Int64.ofInt v))
  | .fconst k => q_an (Nat.beq len 1) (q_an (Nat.beq k.val 0) (q_ieq v 0))
  | .dconst k => q_an (Nat.beq len 1) (q_an (Nat.beq k.val 0) (q_ieq v 0))
  | .ldc idx => q_an (Nat.beq len 2) (bif Nat.beq y 0 then q_mZ q_CI (q_cn i) idx v else q_an (Nat.ble 3 v.toNat) (q_m3 q_WL (q_cn i) idx (Nat.sub v.toNat 3)))
  | .ldc_w idx => bif Nat.beq y 0 then true else q_an (Nat.beq len 3) (q_an (Nat.ble 3 v.toNat) (q_m3 q_WL (q_cn i) idx (Nat.sub v.toNat 3)))
  | .ldc2_w idx => q_an (Nat.beq len 3) (bif Nat.beq y 0 then q_mZ q_CJ (q_cn i) idx v else q_mZ q_CD (q_cn i) idx v)
  | .getstatic idx => q_an (Nat.beq len 3) (q_an (q_m3 q_GS (q_cn i) idx v.toNat) (q_an (Nat.ble 1 v.toNat) (q_an (Nat.ble v.toNat 2) true)))
  | .fcmp _ => Nat.beq len 1
  | .baload => Nat.beq len 1
  | .i2f => Nat.beq len 1
  | .i2d => Nat.beq len 1
  | .l2d => Nat.beq len 1
  | .fneg => Nat.beq len 1
  | .fsub => Nat.beq len 1
  | .fdiv => Nat.beq len 1
  | .dadd => Nat.beq len 1
  | .ddiv => Nat.beq len 1
  | .aconst_null => Nat.beq len 1
  | .dup => Nat.beq len 1
  | .dup2 => Nat.beq len 1
  | .pop => Nat.beq len 1
  | .pop2 => Nat.beq len 1
  | .iadd => Nat.beq len 1
  | .isub => Nat.beq len 1
  | .imul => Nat.beq len 1
  | .idiv => Nat.beq len 1
  | .irem => Nat.beq len 1
  | .iand => Nat.beq len 1
  | .ishr => Nat.beq len 1
  | .iushr => Nat.beq len 1
  | .ineg => Nat.beq len 1
  | .ladd => Nat.beq len 1
  | .lsub => Nat.beq len 1
  | .lmul => Nat.beq len 1
  | .ldiv => Nat.beq len 1
  | .lcmp => Nat.beq len 1
  | .i2l => Nat.beq len 1
  | .l2i => Nat.beq len 1
  | .i2b => Nat.beq len 1
  | .f2d => Nat.beq len 1
  | .arraylength => Nat.beq len 1
  | .iaload => Nat.beq len 1
  | .laload => Nat.beq len 1
  | .daload => Nat.beq len 1
  | .aaload => Nat.beq len 1
  | .iastore => Nat.beq len 1
  | .bastore => Nat.beq len 1
  | .lastore => Nat.beq len 1
  | .dastore => Nat.beq len 1
  | .aastore => Nat.beq len 1
  | .ireturn => Nat.beq len 1
  | .lreturn => Nat.beq len 1
  | .freturn => Nat.beq len 1
  | .dreturn => Nat.beq len 1
  | .areturn => Nat.beq len 1
  | .return_ => Nat.beq len 1
  | .dcmp _ => Nat.beq len 1
  | .goto off => q_an (Nat.beq len 3) (decide ((pc : Int) + off = (x : Int)))
  | .ifCond _ off => q_an (Nat.beq len 3) (decide ((pc : Int) + off = (x : Int)))
  | .if_icmp _ off => q_an (Nat.beq len 3) (decide ((pc : Int) + off = (x : Int)))
  | .ifnull off => q_an (Nat.beq len 3) (decide ((pc : Int) + off = (x : Int)))
  | .tableswitch _ l h _ => q_an (q_ieq (q_w32 l) l) (q_an (q_ieq (q_w32 h) h) (q_ile l h))
  | .iinc k _ => q_an (Nat.beq len 3) (q_an (Nat.beq k x) (Nat.ble (x + 1) (q_mL i)))
  | .getfield idx => q_an (Nat.beq len 3) (q_an (q_m4 q_FL (q_cn i) idx x y) (q_an (Nat.ble (x + 1) 10) (Nat.ble (y + 1) (q_cN x))))
  | .putfield idx => q_an (Nat.beq len 3) (q_an (q_m4 q_FL (q_cn i) idx x y) (q_an (Nat.ble (x + 1) 10) (q_an (Nat.ble (y + 1) (q_cN x)) (q_an (Nat.beq (q_tc (q_cT x y)) v.toNat) (bif (q_cF x y).2.2.2 then q_an (Nat.beq (q_cn i) x) (decide ((q_y i).name = "<init>")) else true)))))
  | .new idx => q_an (Nat.beq len 3) (bif Nat.beq y 0 then q_an (q_m3 q_CL (q_cn i) idx x) (Nat.ble (x + 1) 10) else q_an (Nat.beq (q_cn i) 8) (q_an (q_m4 q_TH (q_cn i) idx x (y - 1)) (q_an (q_m3 q_XL (q_cn i) idx x) (q_an (q_m2 q_SL (q_cn i) v.toNat) (q_an (Nat.ble (x + 1) 4) (q_an (decide (decode (q_bc i) (pc + 3) = .ok (.dup, 1))) (bif decide (decode (q_bc i) (pc + 4) = .ok (.ldc v.toNat, 2)) then q_an (decide (decode (q_bc i) (pc + 6) = .ok (.invokespecial (y - 1), 3))) (decide (decode (q_bc i) (pc + 9) = .ok (.athrow, 1))) else q_an (decide (decode (q_bc i) (pc + 4) = .ok (.ldc_w v.toNat, 3))) (q_an (decide (decode (q_bc i) (pc + 7) = .ok (.invokespecial (y - 1), 3))) (decide (decode (q_bc i) (pc + 10) = .ok (.athrow, 1)))))))))))
  | .newarray t => q_an (Nat.beq len 2) (match t with | .int => q_an (Nat.beq x 1) (Nat.beq y 0) | .byte => q_an (Nat.beq x 2) (Nat.beq y 0) | .long => q_an (Nat.beq x 3) (Nat.beq y 1) | .double => q_an (Nat.beq x 4) (Nat.beq y 5) | _ => false)
  | .anewarray idx => q_an (Nat.beq len 3) (q_m3 q_CL (q_cn i) idx 6)
  | .invokevirtual idx => q_an (Nat.beq len 3) (bif Nat.beq y 1 then q_m3 q_SM (q_cn i) idx 1 else bif Nat.beq y 2 then q_m3 q_SM (q_cn i) idx 2 else q_an (Nat.beq y 0) (q_an (q_m3 q_ML (q_cn i) idx x) (q_an (q_m1 q_VL x) (q_an (Nat.ble (x + 1) 368) (q_nh x)))))
  | .invokestatic idx => q_an (Nat.beq len 3) (bif Nat.beq y 10 then q_m3 q_MJ (q_cn i) idx 10 else bif Nat.beq y 11 then q_m3 q_MJ (q_cn i) idx 11 else bif Nat.beq y 12 then q_m3 q_MJ (q_cn i) idx 12 else bif Nat.beq y 6 then q_m3 q_MM (q_cn i) idx 6 else bif Nat.beq y 7 then q_m3 q_MM (q_cn i) idx 7 else bif Nat.beq y 8 then q_m3 q_MM (q_cn i) idx 8 else q_an (Nat.ble (x + 1) 368) (q_an (q_m1 q_ST x) (bif Nat.beq y 1 then q_an (q_m3 q_ML (q_cn i) idx x) (q_nh x) else bif Nat.beq y 3 then q_an (q_m3 q_NS (q_cn i) idx x) (q_nh x) else q_an (Nat.beq y 9) (q_an (q_m3 q_ML (q_cn i) idx x) (bif q_nh x then false else true)))))
  | .invokespecial idx => q_an (Nat.beq len 3) (bif Nat.beq y 5 then q_m2 q_OL (q_cn i) idx else q_an (Nat.ble (x + 1) 368) (q_an (q_m1 q_IL x) (q_an (q_nh x) (q_an (decide ((q_y x).name = "<init>")) (bif Nat.beq y 2 then q_m3 q_ML (q_cn i) idx x else q_an (Nat.beq y 4) (q_m3 q_NI (q_cn i) idx x))))))
  | _ => true
noncomputable def q_val (i pc : Nat) (e : q_E) : Bool := match e with
  | (ins, len, x, y, v) => bif Nat.beq len 0 then (match ins with | .nop => true | _ => false) else q_an (decide (decode (q_bc i) pc = .ok (ins, len))) (q_vx i pc ins len x y v)
def q_rkk : Option FieldType → Nat
  | none => 0
  | some .int => 1
  | some .boolean => 2
  | some .long => 3
  | some .float => 4
  | some .double => 5
  | some (.object _) => 6
  | _ => 9
noncomputable def q_hrelB (cn : Nat) : List (Nat × Nat × Nat × Nat) → List (Nat × Nat × Nat × Nat) → Bool
  | [], [] => true
  | a :: l, b :: r => q_an (Nat.beq a.1 b.1) (q_an (Nat.beq a.2.1 b.2.1) (q_an (Nat.beq a.2.2.1 b.2.2.1) (q_an (Nat.ble 1 b.2.2.2) (q_an (Nat.ble (a.2.2.2 + 1) 4) (q_an (q_m3 q_XL cn b.2.2.2 a.2.2.2) (q_hrelB cn l r))))))
  | _, _ => false
/-- what a method's row says, against the class file's -/
noncomputable def q_mv (i : Nat) : Bool := q_an (Nat.beq (q_mt i).2.1.1 (q_mL i)) (q_an (decide ((q_y i).cls = q_on (q_cn i))) (q_an (plainName (q_y i).cls) (q_an (decide ((q_y i).cls ≠ "java/lang/invoke/MethodHandle" ∧ (q_y i).cls ≠ "java/lang/invoke/VarHandle")) (q_an (decide ((parseMethodDescriptor (q_y i).desc).map (fun d => d.parameters.length) = some (bif q_m1 q_ST i then (q_mt i).2.1.2.2.1 else (q_mt i).2.1.2.2.1 - 1)))
  (q_an (bif q_m1 q_ST i then true else Nat.ble 1 (q_mt i).2.1.2.2.1) (q_an (Nat.beq (q_rkk (q_rt i)) (q_mt i).2.1.2.2.2) (q_an (q_hrelB (q_cn i) (q_mt i).2.2.2 (q_hh i)) (Nat.ble (q_cn i + 1) 11))))))))
noncomputable def q_iv (i : Nat) : Bool := q_an (q_mv i) ((List.range (q_mt i).1.1).all (fun pc => q_val i pc ((q_mt i).1.2 pc)))
noncomputable def q_mvL (i : Nat) : Bool := q_an (Nat.beq (q_mt i).2.1.1 (q_mL i)) (q_an (decide ((q_y i).cls = q_on (q_cn i))) (q_an (Nat.beq (q_rkk (q_rt i)) (q_mt i).2.1.2.2.2) (q_hrelB (q_cn i) (q_mt i).2.2.2 (q_hh i))))
theorem q_iv_0 : (List.range' 0 16).all q_iv = true := by decide +kernel
theorem q_iv_16 : (List.range' 16 16).all q_iv = true := by decide +kernel
theorem q_iv_32 : (List.range' 32 16).all q_iv = true := by decide +kernel
theorem q_iv_48 : (List.range' 48 16).all q_iv = true := by decide +kernel
theorem q_iv_64 : (List.range' 64 16).all q_iv = true := by decide +kernel
theorem q_iv_80 : (List.range' 80 16).all q_iv = true := by decide +kernel
theorem q_iv_96 : (List.range' 96 16).all q_iv = true := by decide +kernel
theorem q_iv_112 : (List.range' 112 16).all q_iv = true := by decide +kernel
