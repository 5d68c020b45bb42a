/-! Part 11: the tables agree with the class files: looked at by the kernel, instruction by instruction. Printed by wip/tools/gen11.py. -/
abbrev q_an (a b : Bool) : Bool := bif a then b else false
noncomputable def q_cn (i : Nat) : Nat := (q_mt i).2.1.2.1
def q_m1 (l : List Nat) (a : Nat) : Bool := l.any (fun q => Nat.beq q a)
def q_m2 (l : List (Nat × Nat)) (a b : Nat) : Bool := l.any (fun q => Nat.beq q.1 a && Nat.beq q.2 b)
def q_m3 (l : List (Nat × Nat × Nat)) (a b c : Nat) : Bool := l.any (fun q => Nat.beq q.1 a && (Nat.beq q.2.1 b && Nat.beq q.2.2 c))
def q_m4 (l : List (Nat × Nat × Nat × Nat)) (a b c d : Nat) : Bool := l.any (fun q => Nat.beq q.1 a && (Nat.beq q.2.1 b && (Nat.beq q.2.2.1 c && Nat.beq q.2.2.2 d)))
noncomputable def q_mZ (l : List (Nat × Nat × Int)) (a b : Nat) (c : Int) : Bool := l.any (fun q => Nat.beq q.1 a && (Nat.beq q.2.1 b && q_ieq q.2.2 c))
theorem q_m1_i {l : List Nat} {a : Nat} (h : q_m1 l a = true) : a ∈ l := by
  obtain ⟨q, hq, h⟩ := List.any_eq_true.mp h
  rw [← q_bq h]; exact hq
theorem q_m2_i {l : List (Nat × Nat)} {a b : Nat} (h : q_m2 l a b = true) : (a, b) ∈ l := by
  obtain ⟨q, hq, h⟩ := List.any_eq_true.mp h
  obtain ⟨h1, h2⟩ := (Bool.and_eq_true _ _).mp h
  rw [← q_bq h1, ← q_bq h2]; exact hq
theorem q_m3_i {l : List (Nat × Nat × Nat)} {a b c : Nat} (h : q_m3 l a b c = true) : (a, b, c) ∈ l := by
  obtain ⟨q, hq, h⟩ := List.any_eq_true.mp h
  obtain ⟨h1, h2⟩ := (Bool.and_eq_true _ _).mp h
  obtain ⟨h3, h4⟩ := (Bool.and_eq_true _ _).mp h2
  rw [← q_bq h1, ← q_bq h3, ← q_bq h4]; exact hq
theorem q_m4_i {l : List (Nat × Nat × Nat × Nat)} {a b c d : Nat} (h : q_m4 l a b c d = true) : (a, b, c, d) ∈ l := by
  obtain ⟨q, hq, h⟩ := List.any_eq_true.mp h
  obtain ⟨h1, h2⟩ := (Bool.and_eq_true _ _).mp h
  obtain ⟨h3, h4⟩ := (Bool.and_eq_true _ _).mp h2
  obtain ⟨h5, h6⟩ := (Bool.and_eq_true _ _).mp h4
  rw [← q_bq h1, ← q_bq h3, ← q_bq h5, ← q_bq h6]; exact hq
theorem q_mZ_i {l : List (Nat × Nat × Int)} {a b : Nat} {c : Int} (h : q_mZ l a b c = true) : (a, b, c) ∈ l := by
  obtain ⟨q, hq, h⟩ := List.any_eq_true.mp h
  obtain ⟨h1, h2⟩ := (Bool.and_eq_true _ _).mp h
  obtain ⟨h3, h4⟩ := (Bool.and_eq_true _ _).mp h2
  rw [← q_bq h1, ← q_bq h3, ← q_ieq_i h4]; exact hq
def q_tc : FieldType → Nat
  | .int => 0
  | .boolean => 1
  | .long => 2
  | .object _ => 3
  | .array _ => 3
  | _ => 9
def q_nh (x : Nat) : Bool := match q_hh x with
  | [] => true
  | _ :: _ => false
noncomputable def q_vx (i pc : Nat) (ins : Instr) (len x y : Nat) (v : Int) : Bool := match ins with
  | .aload_n k => q_an (Nat.beq len 1) (Nat.beq k.val x)
  | .aload k => q_an (Nat.beq len 2) (Nat.beq k x)
  | .astore_n k => q_an (Nat.beq len 1) (q_an (Nat.beq k.val x) (Nat.ble (x + 1) (q_mL i)))
  | .astore k => q_an (Nat.beq len 2) (q_an (Nat.beq k x) (Nat.ble (x + 1) (q_mL i)))
  | .iload_n k => q_an (Nat.beq len 1) (Nat.beq k.val x)
  | .iload k => q_an (Nat.beq len 2) (Nat.beq k x)
  | .istore_n k => q_an (Nat.beq len 1) (q_an (Nat.beq k.val x) (Nat.ble (x + 1) (q_mL i)))
  | .istore k => q_an (Nat.beq len 2) (q_an (Nat.beq k x) (Nat.ble (x + 1) (q_mL i)))
  | .lload_n k => q_an (Nat.beq len 1) (Nat.beq k.val x)
  | .lload k => q_an (Nat.beq len 2) (Nat.beq k x)
  | .lstore_n k => q_an (Nat.beq len 1) (q_an (Nat.beq k.val x) (Nat.ble (x + 2) (q_mL i)))
  | .lstore k => q_an (Nat.beq len 2) (q_an (Nat.beq k x) (Nat.ble (x + 2) (q_mL i)))
  | .fload_n k => q_an (Nat.beq len 1) (Nat.beq k.val x)
  | .fload k => q_an (Nat.beq len 2) (Nat.beq k x)
  | .fstore_n k => q_an (Nat.beq len 1) (q_an (Nat.beq k.val x) (Nat.ble (x + 1) (q_mL i)))
  | .fstore k => q_an (Nat.beq len 2) (q_an (Nat.beq k x) (Nat.ble (x + 1) (q_mL i)))
  | .dload_n k => q_an (Nat.beq len 1) (Nat.beq k.val x)
  | .dload k => q_an (Nat.beq len 2) (Nat.beq k x)
  | .dstore_n k => q_an (Nat.beq len 1) (q_an (Nat.beq k.val x) (Nat.ble (x + 2) (q_mL i)))
  | .dstore k => q_an (Nat.beq len 2) (q_an (Nat.beq k x) (Nat.ble (x + 2) (q_mL i)))
  | .iconst _ => Nat.beq len 1
  | .bipush n => q_an (Nat.beq len 2) (decide ((Int8.ofInt n).toInt32 = Int32.ofInt n))
  | .sipush n => q_an (Nat.beq len 3) (decide ((Int16.ofInt n).toInt32 = Int32.ofInt n))
  | .lconst k => q_an (Nat.beq len 1) (decide (Int64.ofNat k.val = Int64.ofInt v))
  | .fconst k => q_an (Nat.beq len 1) (q_an (Nat.beq k.val 0) (q_ieq v 0))
  | .dconst k => q_an (Nat.beq len 1) (q_an (Nat.beq k.val 0) (q_ieq v 0))
  | .ldc idx => q_an (Nat.beq len 2) (bif Nat.beq y 0 then q_mZ q_CI (q_cn i) idx v else q_an (Nat.ble 3 v.toNat) (q_m3 q_WL (q_cn i) idx (Nat.sub v.toNat 3)))
  | .ldc_w idx => bif Nat.beq y 0 then true else q_an (Nat.beq len 3) (q_an (Nat.ble 3 v.toNat) (q_m3 q_WL (q_cn i) idx (Nat.sub v.toNat 3)))
  | .ldc2_w idx => q_an (Nat.beq len 3) (bif Nat.beq y 0 then q_mZ q_CJ (q_cn i) idx v else q_mZ q_CD (q_cn i) idx v)
  | .getstatic idx => q_an (Nat.beq len 3) (q_an (q_m3 q_GS (q_cn i) idx v.toNat) (q_an (Nat.ble 1 v.toNat) (q_an (Nat.ble v.toNat 2) true)))
  | .fcmp _ => Nat.beq len 1
  | .baload => Nat.beq len 1
  | .i2f => Nat.beq len 1
  | .i2d => Nat.beq len 1
  | .l2d => Nat.beq len 1
  | .fneg => Nat.beq len 1
  | .fsub => Nat.beq len 1
  | .fdiv => Nat.beq len 1
  | .dadd => Nat.beq len 1
  | .ddiv => Nat.beq len 1
  | .aconst_null => Nat.beq len 1
  | .dup => Nat.beq len 1
  | .dup2 => Nat.beq len 1
  | .pop => Nat.beq len 1
  | .pop2 => Nat.beq len 1
  | .iadd => Nat.beq len 1
  | .isub => Nat.beq len 1
  | .imul => Nat.beq len 1
  | .idiv => Nat.beq len 1
  | .irem => Nat.beq len 1
  | .iand => Nat.beq len 1
  | .ishr => Nat.beq len 1
  | .iushr => Nat.beq len 1
  | .ineg => Nat.beq len 1
  | .ladd => Nat.beq len 1
  | .lsub => Nat.beq len 1
  | .lmul => Nat.beq len 1
  | .ldiv => Nat.beq len 1
  | .lcmp => Nat.beq len 1
  | .i2l => Nat.beq len 1
  | .l2i => Nat.beq len 1
  | .i2b => Nat.beq len 1
  | .f2d => Nat.beq len 1
  | .arraylength => Nat.beq len 1
  | .iaload => Nat.beq len 1
  | .laload => Nat.beq len 1
  | .daload => Nat.beq len 1
  | .aaload => Nat.beq len 1
  | .iastore => Nat.beq len 1
  | .bastore => Nat.beq len 1
  | .lastore => Nat.beq len 1
  | .dastore => Nat.beq len 1
  | .aastore => Nat.beq len 1
  | .ireturn => Nat.beq len 1
  | .lreturn => Nat.beq len 1
  | .freturn => Nat.beq len 1
  | .dreturn => Nat.beq len 1
  | .areturn => Nat.beq len 1
  | .return_ => Nat.beq len 1
  | .dcmp _ => Nat.beq len 1
  | .goto off => q_an (Nat.beq len 3) (decide ((pc : Int) + off = (x : Int)))
  | .ifCond _ off => q_an (Nat.beq len 3) (decide ((pc : Int) + off = (x : Int)))
  | .if_icmp _ off => q_an (Nat.beq len 3) (decide ((pc : Int) + off = (x : Int)))
  | .ifnull off => q_an (Nat.beq len 3) (decide ((pc : Int) + off = (x : Int)))
  | .tableswitch _ l h _ => q_an (q_ieq (q_w32 l) l) (q_an (q_ieq (q_w32 h) h) (q_ile l h))
  | .iinc k _ => q_an (Nat.beq len 3) (q_an (Nat.beq k x) (Nat.ble (x + 1) (q_mL i)))
  | .getfield idx => q_an (Nat.beq len 3) (q_an (q_m4 q_FL (q_cn i) idx x y) (q_an (Nat.ble (x + 1) 10) (Nat.ble (y + 1) (q_cN x))))
  | .putfield idx => q_an (Nat.beq len 3) (q_an (q_m4 q_FL (q_cn i) idx x y) (q_an (Nat.ble (x + 1) 10) (q_an (Nat.ble (y + 1) (q_cN x)) (q_an (Nat.beq (q_tc (q_cT x y)) v.toNat) (bif (q_cF x y).2.2.2 then q_an (Nat.beq (q_cn i) x) (decide ((q_y i).name = "<init>")) else true)))))
  | .new idx => q_an (Nat.beq len 3) (bif Nat.beq y 0 then q_an (q_m3 q_CL (q_cn i) idx x) (Nat.ble (x + 1) 10) else q_an (Nat.beq (q_cn i) 8) (q_an (q_m4 q_TH (q_cn i) idx x (y - 1)) (q_an (q_m3 q_XL (q_cn i) idx x) (q_an (q_m2 q_SL (q_cn i) v.toNat) (q_an (Nat.ble (x + 1) 4) (q_an (decide (decode (q_bc i) (pc + 3) = .ok (.dup, 1))) (bif decide (decode (q_bc i) (pc + 4) = .ok (.ldc v.toNat, 2)) then q_an (decide (decode (q_bc i) (pc + 6) = .ok (.invokespecial (y - 1), 3))) (decide (decode (q_bc i) (pc + 9) = .ok (.athrow, 1))) else q_an (decide (decode (q_bc i) (pc + 4) = .ok (.ldc_w v.toNat, 3))) (q_an (decide (decode (q_bc i) (pc + 7) = .ok (.invokespecial (y - 1), 3))) (decide (decode (q_bc i) (pc + 10) = .ok (.athrow, 1)))))))))))
  | .newarray t => q_an (Nat.beq len 2) (match t with | .int => q_an (Nat.beq x 1) (Nat.beq y 0) | .byte => q_an (Nat.beq x 2) (Nat.beq y 0) | .long => q_an (Nat.beq x 3) (Nat.beq y 1) | .double => q_an (Nat.beq x 4) (Nat.beq y 5) | _ => false)
  | .anewarray idx => q_an (Nat.beq len 3) (q_m3 q_CL (q_cn i) idx 6)
  | .invokevirtual idx => q_an (Nat.beq len 3) (bif Nat.beq y 1 then q_m3 q_SM (q_cn i) idx 1 else bif Nat.beq y 2 then q_m3 q_SM (q_cn i) idx 2 else q_an (Nat.beq y 0) (q_an (q_m3 q_ML (q_cn i) idx x) (q_an (q_m1 q_VL x) (q_an (Nat.ble (x + 1) 369) (q_nh x)))))
  | .invokestatic idx => q_an (Nat.beq len 3) (bif Nat.beq y 10 then q_m3 q_MJ (q_cn i) idx 10 else bif Nat.beq y 11 then q_m3 q_MJ (q_cn i) idx 11 else bif Nat.beq y 12 then q_m3 q_MJ (q_cn i) idx 12 else bif Nat.beq y 6 then q_m3 q_MM (q_cn i) idx 6 else bif Nat.beq y 7 then q_m3 q_MM (q_cn i) idx 7 else bif Nat.beq y 8 then q_m3 q_MM (q_cn i) idx 8 else q_an (Nat.ble (x + 1) 369) (q_an (q_m1 q_ST x) (bif Nat.beq y 1 then q_an (q_m3 q_ML (q_cn i) idx x) (q_nh x) else bif Nat.beq y 3 then q_an (q_m3 q_NS (q_cn i) idx x) (q_nh x) else q_an (Nat.beq y 9) (q_an (q_m3 q_ML (q_cn i) idx x) (bif q_nh x then false else true)))))
  | .invokespecial idx => q_an (Nat.beq len 3) (bif Nat.beq y 5 then q_m2 q_OL (q_cn i) idx else q_an (Nat.ble (x + 1) 369) (q_an (q_m1 q_IL x) (q_an (q_nh x) (q_an (decide ((q_y x).name = "<init>")) (bif Nat.beq y 2 then q_m3 q_ML (q_cn i) idx x else q_an (Nat.beq y 4) (q_m3 q_NI (q_cn i) idx x))))))
  | _ => true
noncomputable def q_val (i pc : Nat) (e : q_E) : Bool := match e with
  | (ins, len, x, y, v) => bif Nat.beq len 0 then (match ins with | .nop => true | _ => false) else q_an (decide (decode (q_bc i) pc = .ok (ins, len))) (q_vx i pc ins len x y v)
def q_rkk : Option FieldType → Nat
  | none => 0
  | some .int => 1
  | some .boolean => 2
  | some .long => 3
  | some .float => 4
  | some .double => 5
  | some (.object _) => 6
  | _ => 9
noncomputable def q_hrelB (cn : Nat) : List (Nat × Nat × Nat × Nat) → List (Nat × Nat × Nat × Nat) → Bool
  | [], [] => true
  | a :: l, b :: r => q_an (Nat.beq a.1 b.1) (q_an (Nat.beq a.2.1 b.2.1) (q_an (Nat.beq a.2.2.1 b.2.2.1) (q_an (Nat.ble 1 b.2.2.2) (q_an (Nat.ble (a.2.2.2 + 1) 4) (q_an (q_m3 q_XL cn b.2.2.2 a.2.2.2) (q_hrelB cn l r))))))
  | _, _ => false
/-- what a method's row says, against the class file's -/
noncomputable def q_mv (i : Nat) : Bool := q_an (Nat.beq (q_mt i).2.1.1 (q_mL i)) (q_an (decide ((q_y i).cls = q_on (q_cn i))) (q_an (plainName (q_y i).cls) (q_an (decide ((q_y i).cls ≠ "java/lang/invoke/MethodHandle" ∧ (q_y i).cls ≠ "java/lang/invoke/VarHandle")) (q_an (decide ((parseMethodDescriptor (q_y i).desc).map (fun d => d.parameters.length) = some (bif q_m1 q_ST i then (q_mt i).2.1.2.2.1 else (q_mt i).2.1.2.2.1 - 1)))
  (q_an (bif q_m1 q_ST i then true else Nat.ble 1 (q_mt i).2.1.2.2.1) (q_an (Nat.beq (q_rkk (q_rt i)) (q_mt i).2.1.2.2.2) (q_an (q_hrelB (q_cn i) (q_mt i).2.2.2 (q_hh i)) (Nat.ble (q_cn i + 1) 11))))))))
noncomputable def q_iv (i : Nat) : Bool := q_an (q_mv i) ((List.range (q_mt i).1.1).all (fun pc => q_val i pc ((q_mt i).1.2 pc)))
noncomputable def q_mvL (i : Nat) : Bool := q_an (Nat.beq (q_mt i).2.1.1 (q_mL i)) (q_an (decide ((q_y i).cls = q_on (q_cn i))) (q_an (Nat.beq (q_rkk (q_rt i)) (q_mt i).2.1.2.2.2) (q_hrelB (q_cn i) (q_mt i).2.2.2 (q_hh i))))
theorem qd_ile_j {a b : Int} (h : q_ile a b = true) : a ≤ b := by
  rcases q_cmp_s a b with ⟨e, h1⟩ | ⟨e, h1⟩ | ⟨e, h1⟩
  · omega
  · omega
  · unfold q_ile at h; rw [e] at h; cases h
/-! reading an instruction off the bytes, one after another -/
noncomputable def qd_u1 (k : Nat) (l : List UInt8) : Bool := List.rec (motive := fun _ => Bool) false (fun b _ _ => Nat.beq b.toNat k) l
noncomputable def qd_tl (l : List UInt8) : List UInt8 := List.rec (motive := fun _ => List UInt8) [] (fun _ t _ => t) l
noncomputable def qd_sg8 (n : Nat) : Int := bif Nat.ble n 127 then Int.ofNat n else Int.negSucc (Nat.sub 255 n)
noncomputable def qd_sg16 (n : Nat) : Int := bif Nat.ble n 32767 then Int.ofNat n else Int.negSucc (Nat.sub 65535 n)
noncomputable def qd_s1 (z : Int) (l : List UInt8) : Bool := List.rec (motive := fun _ => Bool) false (fun b _ _ => q_ieq (qd_sg8 b.toNat) z) l
noncomputable def qd_u2 (k : Nat) (l : List UInt8) : Bool := List.rec (motive := fun _ => Bool) false (fun b t _ => List.rec (motive := fun _ => Bool) false (fun c _ _ => Nat.beq (b.toNat * 256 + c.toNat) k) t) l
noncomputable def qd_s2 (z : Int) (l : List UInt8) : Bool := List.rec (motive := fun _ => Bool) false (fun b t _ => List.rec (motive := fun _ => Bool) false (fun c _ _ => q_ieq (qd_sg16 (b.toNat * 256 + c.toNat)) z) t) l
noncomputable def qd_k0 (c n : Nat) (l : List UInt8) : Bool := q_an (Nat.beq n 1) (qd_u1 c l)
noncomputable def qd_k1 (c k n : Nat) (l : List UInt8) : Bool := q_an (Nat.beq n 2) (q_an (qd_u1 c l) (qd_u1 k (qd_tl l)))
noncomputable def qd_k2 (c k n : Nat) (l : List UInt8) : Bool := q_an (Nat.beq n 3) (q_an (qd_u1 c l) (qd_u2 k (qd_tl l)))
noncomputable def qd_k3 (c : Nat) (z : Int) (n : Nat) (l : List UInt8) : Bool := q_an (Nat.beq n 2) (q_an (qd_u1 c l) (qd_s1 z (qd_tl l)))
noncomputable def qd_k4 (c : Nat) (z : Int) (n : Nat) (l : List UInt8) : Bool := q_an (Nat.beq n 3) (q_an (qd_u1 c l) (qd_s2 z (qd_tl l)))
noncomputable def qd_k5 (c k : Nat) (z : Int) (n : Nat) (l : List UInt8) : Bool := q_an (Nat.beq n 3) (q_an (qd_u1 c l) (q_an (qd_u1 k (qd_tl l)) (qd_s1 z (qd_tl (qd_tl l)))))
def qd_cc : Jvm.ClassFile.Cond → Nat
  | .eq => 0
  | .ne => 1
  | .lt => 2
  | .ge => 3
  | .gt => 4
  | .le => 5
noncomputable def qd_dk (ins : Instr) : Nat → List UInt8 → Bool := match ins with
  | .aload_n k => qd_k0 (42 + k.val)
  | .iload_n k => qd_k0 (26 + k.val)
  | .lload_n k => qd_k0 (30 + k.val)
  | .istore_n k => qd_k0 (59 + k.val)
  | .lstore_n k => qd_k0 (63 + k.val)
  | .astore_n k => qd_k0 (75 + k.val)
  | .iload k => qd_k1 21 k
  | .lload k => qd_k1 22 k
  | .aload k => qd_k1 25 k
  | .istore k => qd_k1 54 k
  | .lstore k => qd_k1 55 k
  | .astore k => qd_k1 58 k
  | .getfield k => qd_k2 180 k
  | .putfield k => qd_k2 181 k
  | .invokevirtual k => qd_k2 182 k
  | .invokespecial k => qd_k2 183 k
  | .invokestatic k => qd_k2 184 k
  | .new k => qd_k2 187 k
  | .ldc2_w k => qd_k2 20 k
  | .goto z => qd_k4 167 z
  | .ifCond c z => qd_k4 (153 + qd_cc c) z
  | .if_icmp c z => qd_k4 (159 + qd_cc c) z
  | .bipush z => qd_k3 16 z
  | .sipush z => qd_k4 17 z
  | .iinc k z => qd_k5 132 k z
  | .ireturn => qd_k0 172
  | .lreturn => qd_k0 173
  | .return_ => qd_k0 177
  | .iadd => qd_k0 96
  | .isub => qd_k0 100
  | .imul => qd_k0 104
  | .ladd => qd_k0 97
  | .iaload => qd_k0 46
  | .laload => qd_k0 47
  | .lastore => qd_k0 80
  | .iastore => qd_k0 79
  | .i2l => qd_k0 133
  | .lcmp => qd_k0 148
  | .dup => qd_k0 89
  | .pop => qd_k0 87
  | .pop2 => qd_k0 88
  | .iconst z => fun n l => q_an (q_ile (-1) z) (q_an (q_ile z 5) (qd_k0 (z + 3).toNat n l))
  | .lconst k => qd_k0 (9 + k.val)
  | _ => fun _ _ => false
theorem qd_u1_i {k : Nat} {l : List UInt8} (h : qd_u1 k l = true) : ∃ b t, l = b :: t ∧ b.toNat = k := by
  cases l with
  | nil => cases h
  | cons b t => exact ⟨b, t, rfl, q_bq h⟩
theorem qd_sg8_s {n : Nat} (h : n < 256) : Reader.signed 8 n = qd_sg8 n := by
  unfold Reader.signed qd_sg8
  rcases q_ble (a := n) (b := 127) with ⟨e, h1⟩ | ⟨e, h1⟩ <;> rw [e]
  · rw [if_pos (show n < 2 ^ (8 - 1) by omega)]; rfl
  · rw [if_neg (show ¬ n < 2 ^ (8 - 1) by omega)]
    show (n : Int) - ((256 : Nat) : Int) = Int.negSucc (255 - n)
    omega
theorem qd_sg16_s {n : Nat} (h : n < 65536) : Reader.signed 16 n = qd_sg16 n := by
  unfold Reader.signed qd_sg16
  rcases q_ble (a := n) (b := 32767) with ⟨e, h1⟩ | ⟨e, h1⟩ <;> rw [e]
  · rw [if_pos (show n < 2 ^ (16 - 1) by omega)]; rfl
  · rw [if_neg (show ¬ n < 2 ^ (16 - 1) by omega)]
    show (n : Int) - ((65536 : Nat) : Int) = Int.negSucc (65535 - n)
    omega
theorem qd_b256 (b : UInt8) : b.toNat < 256 := b.toNat_lt
theorem qd_rd {A : ByteArray} {p : Nat} {b : UInt8} {t : List UInt8} (h : A.data.toList.drop p = b :: t) : (Reader.u1 : Decoder Nat) A p = .ok (b.toNat, p + 1) ∧ A.data.toList.drop (p + 1) = t := by
  have hp : p < A.data.toList.length := by
    by_cases c : p < A.data.toList.length
    · exact c
    · rw [List.drop_eq_nil_of_le (by omega)] at h; cases h
  have h2 := List.drop_eq_getElem_cons hp
  rw [h] at h2
  injection h2 with h3 h4
  refine ⟨?_, h4.symm⟩
  have hs : p < A.size := hp
  have e : (Reader.u1 : Decoder Nat) A p = (if h : p < A.size then (do set (p + 1); pure A[p].toNat : Decoder Nat) else throw (HasTruncated.truncated p)) A p := rfl
  rw [e, dif_pos hs]
  show Except.ok (A[p].toNat, p + 1) = _
  rw [h3]; rfl
theorem qd_bnd {α β : Type} {r : Decoder α} {f : α → Decoder β} {A : ByteArray} {p q : Nat} {x : α} (h : r A p = .ok (x, q)) : (r >>= f) A p = f x A q := by
  show (Except.bind (r A p) fun v => f v.1 A v.2) = _
  rw [h]; rfl
theorem qd_map {α β : Type} {r : Decoder α} {g : α → β} {A : ByteArray} {p q : Nat} {x : α} (h : r A p = .ok (x, q)) : (g <$> r) A p = .ok (g x, q) := by
  show (Except.bind (r A p) fun v => .ok (g v.1, v.2)) = _
  rw [h]; rfl
theorem qd_dcd {A : ByteArray} {pc n : Nat} {ins : Instr} (h : (Decoder.instr pc) A pc = .ok (ins, pc + n)) : decode A pc = .ok (ins, n) := by
  show (Except.bind ((Decoder.instr pc) A pc) fun v => .ok (v.1, v.2 - pc)) = _
  rw [h]
  show Except.ok (ins, pc + n - pc) = _
  rw [Nat.add_sub_cancel_left]
section q_sd
variable {A : ByteArray} {pc c k n : Nat} {z : Int} {f : Nat → Decoder Instr} {ins : Instr}
theorem qd_s0' (h : qd_k0 c n (A.data.toList.drop pc) = true) (hi : Decoder.instr pc = Reader.u1 >>= f) (hf : f c = (pure ins : Decoder Instr)) : decode A pc = .ok (ins, n) := by
  obtain ⟨h1, h2⟩ := q_and_i h
  obtain ⟨b, t, e, hb⟩ := qd_u1_i h2
  have r := (qd_rd e).1
  rw [hb] at r
  rw [q_bq h1]
  exact qd_dcd (by rw [hi, qd_bnd r, hf]; rfl)
theorem qd_s1' {g : Nat → Instr} (h : qd_k1 c k n (A.data.toList.drop pc) = true) (hi : Decoder.instr pc = Reader.u1 >>= f) (hf : f c = Reader.u1 >>= fun x => (pure (g x) : Decoder Instr)) : decode A pc = .ok (g k, n) := by
  obtain ⟨h1, h2⟩ := q_and_i h
  obtain ⟨h2, h3⟩ := q_and_i h2
  obtain ⟨b, t, e, hb⟩ := qd_u1_i h2
  obtain ⟨r, e2⟩ := qd_rd e
  rw [e] at h3
  obtain ⟨b2, t2, e3, hb2⟩ := qd_u1_i (l := t) h3
  have r2 := (qd_rd (e2.trans e3)).1
  rw [hb] at r
  rw [hb2] at r2
  rw [q_bq h1]
  exact qd_dcd (by rw [hi, qd_bnd r, hf, qd_bnd r2]; rfl)
theorem qd_u2_i {l : List UInt8} (h : qd_u2 k l = true) : ∃ b d t, l = b :: d :: t ∧ b.toNat * 256 + d.toNat = k := by
  cases l with
  | nil => cases h
  | cons b t => cases t with
    | nil => cases h
    | cons d t => exact ⟨b, d, t, rfl, q_bq h⟩
theorem qd_s2_i {l : List UInt8} (h : qd_s2 z l = true) : ∃ b d t, l = b :: d :: t ∧ Reader.signed 16 (b.toNat * 256 + d.toNat) = z := by
  cases l with
  | nil => cases h
  | cons b t => cases t with
    | nil => cases h
    | cons d t => exact ⟨b, d, t, rfl, by have := qd_b256 b; have := qd_b256 d; rw [qd_sg16_s (by omega)]; exact q_ieq_i h⟩
theorem qd_s1_i {l : List UInt8} (h : qd_s1 z l = true) : ∃ b t, l = b :: t ∧ Reader.signed 8 b.toNat = z := by
  cases l with
  | nil => cases h
  | cons b t => exact ⟨b, t, rfl, by have := qd_b256 b; rw [qd_sg8_s (by omega)]; exact q_ieq_i h⟩
theorem qd_rd2 {b d : UInt8} {t : List UInt8} {p : Nat} (h : A.data.toList.drop p = b :: d :: t) : (Reader.u2 : Decoder Nat) A p = .ok (b.toNat * 256 + d.toNat, p + 2) := by
  obtain ⟨r, e⟩ := qd_rd h
  obtain ⟨r2, -⟩ := qd_rd e
  unfold Reader.u2
  rw [qd_bnd r, qd_bnd r2]; rfl
theorem qd_s2' {g : Nat → Instr} (h : qd_k2 c k n (A.data.toList.drop pc) = true) (hi : Decoder.instr pc = Reader.u1 >>= f) (hf : f c = Reader.u2 >>= fun x => (pure (g x) : Decoder Instr)) : decode A pc = .ok (g k, n) := by
  obtain ⟨h1, h2⟩ := q_and_i h
  obtain ⟨h2, h3⟩ := q_and_i h2
  obtain ⟨b, t, e, hb⟩ := qd_u1_i h2
  obtain ⟨r, e2⟩ := qd_rd e
  rw [e] at h3
  obtain ⟨b2, d2, t2, e3, hb2⟩ := qd_u2_i (l := t) h3
  have r2 := qd_rd2 (e2.trans e3)
  rw [hb] at r
  rw [hb2] at r2
  rw [q_bq h1]
  exact qd_dcd (by rw [hi, qd_bnd r, hf, qd_bnd r2]; rfl)
theorem qd_s3' {g : Int → Instr} (h : qd_k3 c z n (A.data.toList.drop pc) = true) (hi : Decoder.instr pc = Reader.u1 >>= f) (hf : f c = Reader.s1 >>= fun x => (pure (g x) : Decoder Instr)) : decode A pc = .ok (g z, n) := by
  obtain ⟨h1, h2⟩ := q_and_i h
  obtain ⟨h2, h3⟩ := q_and_i h2
  obtain ⟨b, t, e, hb⟩ := qd_u1_i h2
  obtain ⟨r, e2⟩ := qd_rd e
  rw [e] at h3
  obtain ⟨b2, t2, e3, hb2⟩ := qd_s1_i (l := t) h3
  have r2 := qd_map (g := Reader.signed 8) (qd_rd (e2.trans e3)).1
  rw [hb] at r
  rw [hb2] at r2
  have r3 : (Reader.s1 : Decoder Int) A (pc + 1) = .ok (z, pc + 1 + 1) := r2
  rw [q_bq h1]
  exact qd_dcd (by rw [hi, qd_bnd r, hf, qd_bnd r3]; rfl)
theorem qd_s4' {g : Int → Instr} (h : qd_k4 c z n (A.data.toList.drop pc) = true) (hi : Decoder.instr pc = Reader.u1 >>= f) (hf : f c = Reader.s2 >>= fun x => (pure (g x) : Decoder Instr)) : decode A pc = .ok (g z, n) := by
  obtain ⟨h1, h2⟩ := q_and_i h
  obtain ⟨h2, h3⟩ := q_and_i h2
  obtain ⟨b, t, e, hb⟩ := qd_u1_i h2
  obtain ⟨r, e2⟩ := qd_rd e
  rw [e] at h3
  obtain ⟨b2, d2, t2, e3, hb2⟩ := qd_s2_i (l := t) h3
  have r2 := qd_map (g := Reader.signed 16) (qd_rd2 (e2.trans e3))
  rw [hb] at r
  rw [hb2] at r2
  have r3 : (Reader.s2 : Decoder Int) A (pc + 1) = .ok (z, pc + 1 + 2) := r2
  rw [q_bq h1]
  exact qd_dcd (by rw [hi, qd_bnd r, hf, qd_bnd r3]; rfl)
theorem qd_s5' (h : qd_k5 132 k z n (A.data.toList.drop pc) = true) : decode A pc = .ok (.iinc k z, n) := by
  obtain ⟨h1, h2⟩ := q_and_i h
  obtain ⟨h2, h3⟩ := q_and_i h2
  obtain ⟨h3, h4⟩ := q_and_i h3
  obtain ⟨b, t, e, hb⟩ := qd_u1_i h2
  obtain ⟨r, e2⟩ := qd_rd e
  rw [e] at h3 h4
  obtain ⟨b2, t2, e3, hb2⟩ := qd_u1_i (l := t) h3
  obtain ⟨r2, e4⟩ := qd_rd (e2.trans e3)
  rw [e3] at h4
  obtain ⟨b3, t3, e5, hb3⟩ := qd_s1_i (l := t2) h4
  have r3 := qd_map (g := Reader.signed 8) (qd_rd (e4.trans e5)).1
  rw [hb] at r
  rw [hb2] at r2
  rw [hb3] at r3
  have r4 : (Reader.s1 : Decoder Int) A (pc + 1 + 1) = .ok (z, pc + 1 + 1 + 1) := r3
  have hi : Decoder.instr pc A pc = (Reader.u1 >>= fun a => Reader.s1 >>= fun b => pure (Instr.iinc a b) : Decoder Instr) A (pc + 1) := qd_bnd r
  rw [q_bq h1]
  exact qd_dcd (by rw [hi, qd_bnd r2, qd_bnd r4]; rfl)
end q_sd
set_option maxRecDepth 8000 in
theorem qd_dk_s {A : ByteArray} {pc n : Nat} {ins : Instr} (h : qd_dk ins n (A.data.toList.drop pc) = true) : decode A pc = .ok (ins, n) := by
  cases ins with
  | aload_n k => exact match k with | 0 => qd_s0' h rfl rfl | 1 => qd_s0' h rfl rfl | 2 => qd_s0' h rfl rfl | 3 => qd_s0' h rfl rfl
  | iload_n k => exact match k with | 0 => qd_s0' h rfl rfl | 1 => qd_s0' h rfl rfl | 2 => qd_s0' h rfl rfl | 3 => qd_s0' h rfl rfl
  | lload_n k => exact match k with | 0 => qd_s0' h rfl rfl | 1 => qd_s0' h rfl rfl | 2 => qd_s0' h rfl rfl | 3 => qd_s0' h rfl rfl
  | istore_n k => exact match k with | 0 => qd_s0' h rfl rfl | 1 => qd_s0' h rfl rfl | 2 => qd_s0' h rfl rfl | 3 => qd_s0' h rfl rfl
  | lstore_n k => exact match k with | 0 => qd_s0' h rfl rfl | 1 => qd_s0' h rfl rfl | 2 => qd_s0' h rfl rfl | 3 => qd_s0' h rfl rfl
  | astore_n k => exact match k with | 0 => qd_s0' h rfl rfl | 1 => qd_s0' h rfl rfl | 2 => qd_s0' h rfl rfl | 3 => qd_s0' h rfl rfl
  | iload k => exact qd_s1' h rfl rfl
  | lload k => exact qd_s1' h rfl rfl
  | aload k => exact qd_s1' h rfl rfl
  | istore k => exact qd_s1' h rfl rfl
  | lstore k => exact qd_s1' h rfl rfl
  | astore k => exact qd_s1' h rfl rfl
  | getfield k => exact qd_s2' h rfl rfl
  | putfield k => exact qd_s2' h rfl rfl
  | invokevirtual k => exact qd_s2' h rfl rfl
  | invokespecial k => exact qd_s2' h rfl rfl
  | invokestatic k => exact qd_s2' h rfl rfl
  | new k => exact qd_s2' h rfl rfl
  | ldc2_w k => exact qd_s2' h rfl rfl
  | goto z => exact qd_s4' h rfl rfl
  | ifCond c z => exact match c with | .eq => qd_s4' h rfl rfl | .ne => qd_s4' h rfl rfl | .lt => qd_s4' h rfl rfl | .ge => qd_s4' h rfl rfl | .gt => qd_s4' h rfl rfl | .le => qd_s4' h rfl rfl
  | if_icmp c z => exact match c with | .eq => qd_s4' h rfl rfl | .ne => qd_s4' h rfl rfl | .lt => qd_s4' h rfl rfl | .ge => qd_s4' h rfl rfl | .gt => qd_s4' h rfl rfl | .le => qd_s4' h rfl rfl
  | bipush z => exact qd_s3' h rfl rfl
  | sipush z => exact qd_s4' h rfl rfl
  | iinc k z => exact qd_s5' h
  | ireturn => exact qd_s0' h rfl rfl
  | lreturn => exact qd_s0' h rfl rfl
  | return_ => exact qd_s0' h rfl rfl
  | iadd => exact qd_s0' h rfl rfl
  | isub => exact qd_s0' h rfl rfl
  | imul => exact qd_s0' h rfl rfl
  | ladd => exact qd_s0' h rfl rfl
  | iaload => exact qd_s0' h rfl rfl
  | laload => exact qd_s0' h rfl rfl
  | lastore => exact qd_s0' h rfl rfl
  | iastore => exact qd_s0' h rfl rfl
  | i2l => exact qd_s0' h rfl rfl
  | lcmp => exact qd_s0' h rfl rfl
  | dup => exact qd_s0' h rfl rfl
  | pop => exact qd_s0' h rfl rfl
  | pop2 => exact qd_s0' h rfl rfl
  | iconst z =>
    obtain ⟨h1, h⟩ := q_and_i h
    obtain ⟨h2, h⟩ := q_and_i h
    have l1 := qd_ile_j h1
    have l2 := qd_ile_j h2
    have hz : z = -1 ∨ z = 0 ∨ z = 1 ∨ z = 2 ∨ z = 3 ∨ z = 4 ∨ z = 5 := by omega
    rcases hz with rfl | rfl | rfl | rfl | rfl | rfl | rfl
    · exact qd_s0' h rfl rfl
    · exact qd_s0' h rfl rfl
    · exact qd_s0' h rfl rfl
    · exact qd_s0' h rfl rfl
    · exact qd_s0' h rfl rfl
    · exact qd_s0' h rfl rfl
    · exact qd_s0' h rfl rfl
  | lconst k => exact match k with | 0 => qd_s0' h rfl rfl | 1 => qd_s0' h rfl rfl
  | _ => cases h
noncomputable def qd_wkn (f : Nat → List UInt8 → Bool) (n : Nat) : List UInt8 → Nat → Bool := Nat.rec (motive := fun _ => List UInt8 → Nat → Bool) (fun _ _ => true) (fun _ ih l pc => List.rec (motive := fun _ => Bool) false (fun b t _ => q_an (f pc (b :: t)) (ih t (Nat.succ pc))) l) n
theorem qd_wkn_s {f : Nat → List UInt8 → Bool} : ∀ (n : Nat) (l : List UInt8) (pc : Nat), qd_wkn f n l pc = true → ∀ j, j < n → f (pc + j) (l.drop j) = true := by
  intro n
  induction n with
  | zero => intro l pc _ j hj; omega
  | succ n ih =>
    intro l pc h j hj
    cases l with
    | nil => cases h
    | cons b t =>
      obtain ⟨h1, h2⟩ := q_and_i (a := f pc (b :: t)) (b := qd_wkn f n t (pc + 1)) h
      cases j with
      | zero => exact h1
      | succ j =>
        have := ih t (pc + 1) h2 j (by omega)
        rw [show pc + 1 + j = pc + (j + 1) by omega] at this
        exact this
noncomputable def qd_vlF (i pc : Nat) (l : List UInt8) (e : q_E) : Bool := match e with
  | (ins, len, x, y, v) => bif Nat.beq len 0 then (match ins with | .nop => true | _ => false) else q_an (bif qd_dk ins len l then true else decide (decode (q_bc i) pc = .ok (ins, len))) (q_vx i pc ins len x y v)
def qd_np (ins : Instr) : Bool := match ins with
  | .nop => true
  | _ => false
theorem qd_vl_v {i pc : Nat} {e : q_E} (h : qd_vlF i pc ((q_bc i).data.toList.drop pc) e = true) : q_val i pc e = true := by
  obtain ⟨ins, len, x, y, v⟩ := e
  have h1 : (bif Nat.beq len 0 then qd_np ins else q_an (bif qd_dk ins len ((q_bc i).data.toList.drop pc) then true else decide (decode (q_bc i) pc = .ok (ins, len))) (q_vx i pc ins len x y v)) = true := h
  show (bif Nat.beq len 0 then qd_np ins else q_an (decide (decode (q_bc i) pc = .ok (ins, len))) (q_vx i pc ins len x y v)) = true
  cases hl : Nat.beq len 0 with
  | true => rw [hl] at h1; exact h1
  | false =>
    rw [hl] at h1
    obtain ⟨h2, h3⟩ := q_and_i h1
    have hd : decide (decode (q_bc i) pc = .ok (ins, len)) = true := by
      cases hk : qd_dk ins len ((q_bc i).data.toList.drop pc) with
      | true => exact decide_eq_true (qd_dk_s hk)
      | false => rw [hk] at h2; exact h2
    show q_an (decide (decode (q_bc i) pc = .ok (ins, len))) (q_vx i pc ins len x y v) = true
    rw [hd]; exact h3
noncomputable def qd_ivF (i : Nat) : Bool := q_an (q_mv i) (q_an (qd_wkn (fun pc l => qd_vlF i pc l ((q_mt i).1.2 pc)) (q_bc i).size (q_bc i).data.toList 0) ((List.range' (q_bc i).size (Nat.sub (q_mt i).1.1 (q_bc i).size)).all (fun pc => q_val i pc ((q_mt i).1.2 pc))))
theorem qd_ivF_s {i : Nat} (h : qd_ivF i = true) : q_iv i = true := by
  obtain ⟨h1, h⟩ := q_and_i h
  obtain ⟨h2, h3⟩ := q_and_i h
  have h4 : (List.range (q_mt i).1.1).all (fun pc => q_val i pc ((q_mt i).1.2 pc)) = true := by
    refine List.all_eq_true.mpr fun pc hpc => ?_
    have hp := List.mem_range.mp hpc
    by_cases c : pc < (q_bc i).size
    · have := qd_wkn_s _ _ _ h2 pc c
      rw [Nat.zero_add] at this
      exact qd_vl_v this
    · refine List.all_eq_true.mp h3 pc (List.mem_range'_1.mpr ⟨by omega, ?_⟩)
      show pc < (q_bc i).size + ((q_mt i).1.1 - (q_bc i).size)
      omega
  show q_an (q_mv i) _ = true
  rw [h1]; exact h4
noncomputable def qd_ckF (i k : Nat) : Bool := q_an (qd_wkn (fun pc l => qd_vlF i pc l ((q_mt i).1.2 pc)) (bif Nat.ble 256 (Nat.sub (q_bc i).size (256 * k)) then 256 else Nat.sub (q_bc i).size (256 * k)) ((q_bc i).data.toList.drop (256 * k)) (256 * k)) ((List.range' (256 * k) 256).all (fun pc => bif Nat.ble (Nat.succ pc) (q_bc i).size then true else q_val i pc ((q_mt i).1.2 pc)))
theorem qd_ckF_s {i k : Nat} (h : qd_ckF i k = true) : ∀ pc, 256 * k ≤ pc → pc < 256 * k + 256 → q_val i pc ((q_mt i).1.2 pc) = true := by
  intro pc p1 p2
  obtain ⟨h1, h2⟩ := q_and_i h
  by_cases c : pc < (q_bc i).size
  · have hj : pc - 256 * k < (bif Nat.ble 256 (Nat.sub (q_bc i).size (256 * k)) then 256 else Nat.sub (q_bc i).size (256 * k)) := by
      rcases q_ble (a := 256) (b := Nat.sub (q_bc i).size (256 * k)) with ⟨e, h1⟩ | ⟨e, h1⟩ <;> rw [e]
      · show pc - 256 * k < 256
        omega
      · show pc - 256 * k < (q_bc i).size - 256 * k
        omega
    have := qd_wkn_s _ _ _ h1 (pc - 256 * k) hj
    rw [show 256 * k + (pc - 256 * k) = pc by omega, List.drop_drop, show 256 * k + (pc - 256 * k) = pc by omega] at this
    exact qd_vl_v this
  · have := List.all_eq_true.mp h2 pc (List.mem_range'_1.mpr ⟨p1, p2⟩)
    have e : Nat.ble (Nat.succ pc) (q_bc i).size = false := by
      rcases q_ble (a := Nat.succ pc) (b := (q_bc i).size) with ⟨e, h1⟩ | ⟨e, h1⟩
      · omega
      · exact e
    have h5 : (bif Nat.ble (Nat.succ pc) (q_bc i).size then true else q_val i pc ((q_mt i).1.2 pc)) = true := this
    rw [e] at h5
    exact h5
theorem q_iv_0 : (List.range' 0 16).all qd_ivF = true := by decide +kernel
theorem q_iv_16 : (List.range' 16 16).all qd_ivF = true := by decide +kernel
theorem q_iv_32 : (List.range' 32 16).all qd_ivF = true := by decide +kernel
theorem q_iv_48 : (List.range' 48 16).all qd_ivF = true := by decide +kernel
theorem q_iv_64 : (List.range' 64 16).all qd_ivF = true := by decide +kernel
theorem q_iv_80 : (List.range' 80 16).all qd_ivF = true := by decide +kernel
theorem q_iv_96 : (List.range' 96 16).all qd_ivF = true := by decide +kernel
theorem q_iv_112 : (List.range' 112 16).all qd_ivF = true := by decide +kernel
theorem q_iv_128 : (List.range' 128 16).all qd_ivF = true := by decide +kernel
theorem q_iv_144 : (List.range' 144 16).all qd_ivF = true := by decide +kernel
theorem q_iv_160 : (List.range' 160 16).all qd_ivF = true := by decide +kernel
theorem q_iv_176 : (List.range' 176 16).all qd_ivF = true := by decide +kernel
theorem q_iv_192 : (List.range' 192 16).all qd_ivF = true := by decide +kernel
theorem q_iv_208 : (List.range' 208 16).all qd_ivF = true := by decide +kernel
theorem q_iv_224 : (List.range' 224 16).all qd_ivF = true := by decide +kernel
theorem q_iv_240 : (List.range' 240 16).all qd_ivF = true := by decide +kernel
theorem q_iv_256 : (List.range' 256 16).all qd_ivF = true := by decide +kernel
theorem q_iv_272 : (List.range' 272 16).all qd_ivF = true := by decide +kernel
theorem q_iv_288 : (List.range' 288 16).all qd_ivF = true := by decide +kernel
theorem q_iv_304 : (List.range' 304 16).all qd_ivF = true := by decide +kernel
theorem q_iv_320 : (List.range' 320 16).all qd_ivF = true := by decide +kernel
theorem q_iv_336 : (List.range' 336 16).all qd_ivF = true := by decide +kernel
theorem q_iv_352 : (List.range' 352 17).all qd_ivF = true := by decide +kernel
theorem q_mv_law : q_mvL 369 = true := by decide +kernel
theorem q_iv_all : ∀ i, i < 369 → q_iv i = true := by
  intro i hi
  have key : ∀ a n : Nat, (List.range' a n).all qd_ivF = true → a ≤ i → i < a + n → q_iv i = true := fun a n h h1 h2 => qd_ivF_s (List.all_eq_true.mp h i (List.mem_range'_1.mpr ⟨h1, h2⟩))
  by_cases c0 : i < 16
  · exact key 0 16 q_iv_0 (by omega) (by omega)
  by_cases c16 : i < 32
  · exact key 16 16 q_iv_16 (by omega) (by omega)
  by_cases c32 : i < 48
  · exact key 32 16 q_iv_32 (by omega) (by omega)
  by_cases c48 : i < 64
  · exact key 48 16 q_iv_48 (by omega) (by omega)
  by_cases c64 : i < 80
  · exact key 64 16 q_iv_64 (by omega) (by omega)
  by_cases c80 : i < 96
  · exact key 80 16 q_iv_80 (by omega) (by omega)
  by_cases c96 : i < 112
  · exact key 96 16 q_iv_96 (by omega) (by omega)
  by_cases c112 : i < 128
  · exact key 112 16 q_iv_112 (by omega) (by omega)
  by_cases c128 : i < 144
  · exact key 128 16 q_iv_128 (by omega) (by omega)
  by_cases c144 : i < 160
  · exact key 144 16 q_iv_144 (by omega) (by omega)
  by_cases c160 : i < 176
  · exact key 160 16 q_iv_160 (by omega) (by omega)
  by_cases c176 : i < 192
  · exact key 176 16 q_iv_176 (by omega) (by omega)
  by_cases c192 : i < 208
  · exact key 192 16 q_iv_192 (by omega) (by omega)
  by_cases c208 : i < 224
  · exact key 208 16 q_iv_208 (by omega) (by omega)
  by_cases c224 : i < 240
  · exact key 224 16 q_iv_224 (by omega) (by omega)
  by_cases c240 : i < 256
  · exact key 240 16 q_iv_240 (by omega) (by omega)
  by_cases c256 : i < 272
  · exact key 256 16 q_iv_256 (by omega) (by omega)
  by_cases c272 : i < 288
  · exact key 272 16 q_iv_272 (by omega) (by omega)
  by_cases c288 : i < 304
  · exact key 288 16 q_iv_288 (by omega) (by omega)
  by_cases c304 : i < 320
  · exact key 304 16 q_iv_304 (by omega) (by omega)
  by_cases c320 : i < 336
  · exact key 320 16 q_iv_320 (by omega) (by omega)
  by_cases c336 : i < 352
  · exact key 336 16 q_iv_336 (by omega) (by omega)
  exact key 352 17 q_iv_352 (by omega) (by omega)
theorem q_mv_ok : ∀ i, i < 369 → q_mv i = true := fun i hi => (q_and_i (q_iv_all i hi)).1
