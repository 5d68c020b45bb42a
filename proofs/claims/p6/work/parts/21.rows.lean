/-! Part 21: the rules, one for an instruction. The body of the step is printed by a program out of part 06a. -/
noncomputable def q_stB (mt : Nat → q_MI) (df : Nat → List q_V) (cf : Nat → List q_V → q_H → q_I → Option (List q_Lf)) (sL : Nat) (mi : q_MI) (pc : Nat) (lo : q_L) (st : List q_V) (hp : q_H) (iv : q_I) (cl sl : Nat) (ins : Instr) (len x y : Nat) (v : Int) : q_O :=
  match ins with
  | .aload_n _ => q_oLoad q_isN x (Nat.add pc len) lo st hp iv cl sl
  | .aload _ => q_oLoad q_isN x (Nat.add pc len) lo st hp iv cl sl
  | .iload_n _ => q_oLoad q_isK x (Nat.add pc len) lo st hp iv cl sl
  | .iload _ => q_oLoad q_isK x (Nat.add pc len) lo st hp iv cl sl
  | .lload_n _ => q_oLoad q_isJ x (Nat.add pc len) lo st hp iv cl sl
  | .lload _ => q_oLoad q_isJ x (Nat.add pc len) lo st hp iv cl sl
  | .fload_n _ => q_oLoad (Nat.beq 4) x (Nat.add pc len) lo st hp iv cl sl
  | .fload _ => q_oLoad (Nat.beq 4) x (Nat.add pc len) lo st hp iv cl sl
  | .dload_n _ => q_oLoad (Nat.beq 5) x (Nat.add pc len) lo st hp iv cl sl
  | .dload _ => q_oLoad (Nat.beq 5) x (Nat.add pc len) lo st hp iv cl sl
  | .astore_n _ => q_oStore q_isN false x (Nat.add pc len) lo st hp iv cl sl
  | .astore _ => q_oStore q_isN false x (Nat.add pc len) lo st hp iv cl sl
  | .istore_n _ => q_oStore q_isI false x (Nat.add pc len) lo st hp iv cl sl
  | .istore _ => q_oStore q_isI false x (Nat.add pc len) lo st hp iv cl sl
  | .lstore_n _ => q_oStore q_isJ true x (Nat.add pc len) lo st hp iv cl sl
  | .lstore _ => q_oStore q_isJ true x (Nat.add pc len) lo st hp iv cl sl
  | .fstore_n _ => q_oStore (Nat.beq 4) false x (Nat.add pc len) lo st hp iv cl sl
  | .fstore _ => q_oStore (Nat.beq 4) false x (Nat.add pc len) lo st hp iv cl sl
  | .dstore_n _ => q_oStore (Nat.beq 5) true x (Nat.add pc len) lo st hp iv cl sl
  | .dstore _ => q_oStore (Nat.beq 5) true x (Nat.add pc len) lo st hp iv cl sl
  | .iconst n => q_one (0, n) (Nat.add pc len) lo st hp iv cl sl
  | .bipush n => q_one (0, n) (Nat.add pc len) lo st hp iv cl sl
  | .sipush n => q_one (0, n) (Nat.add pc len) lo st hp iv cl sl
  | .lconst _ => q_one (1, v) (Nat.add pc len) lo st hp iv cl sl
  | .fconst _ => q_one (4, v) (Nat.add pc len) lo st hp iv cl sl
  | .dconst _ => q_one (5, v) (Nat.add pc len) lo st hp iv cl sl
  | .ldc _ => q_one (bif Nat.beq y 0 then 0 else 9, v) (Nat.add pc len) lo st hp iv cl sl
  | .ldc_w _ => bif Nat.beq y 0 then none else q_one (9, v) (Nat.add pc len) lo st hp iv cl sl
  | .ldc2_w _ => q_one (bif Nat.beq y 0 then 1 else 5, v) (Nat.add pc len) lo st hp iv cl sl
  | .aconst_null => q_one (3, 0) (Nat.add pc len) lo st hp iv cl sl
  | .dup => q_oDup (Nat.add pc len) lo st hp iv cl sl
  | .dup2 => q_oDup2 (Nat.add pc len) lo st hp iv cl sl
  | .pop => q_oPop (Nat.add pc len) lo st hp iv cl sl
  | .pop2 => q_oPop2 (Nat.add pc len) lo st hp iv cl sl
  | .iadd => q_oBin 0 (fun a b => q_w32 (Int.add a b)) (Nat.add pc len) lo st hp iv cl sl
  | .isub => q_oBin 0 (fun a b => q_w32 (Int.sub a b)) (Nat.add pc len) lo st hp iv cl sl
  | .imul => q_oBin 0 (fun a b => q_w32 (Int.mul a b)) (Nat.add pc len) lo st hp iv cl sl
  | .idiv => q_oDiv 0 (fun a b => (Int32.ofInt a / Int32.ofInt b).toInt) q_w32 (Nat.add pc len) lo st hp iv cl sl
  | .irem => q_oDiv 0 (fun a b => (Int32.ofInt a - Int32.ofInt a / Int32.ofInt b * Int32.ofInt b).toInt) q_w32 (Nat.add pc len) lo st hp iv cl sl
  | .iand => q_oAnd (Nat.add pc len) lo st hp iv cl sl
  | .ior => q_oAny (fun a b => (Int32.ofInt a ||| Int32.ofInt b).toInt) (Nat.add pc len) lo st hp iv cl sl
  | .ishl => q_oAny (fun a b => (Int32.ofInt a <<< (Int32.ofInt b &&& 31)).toInt) (Nat.add pc len) lo st hp iv cl sl
  | .ishr => q_oAny (fun a b => (Int32.ofInt a >>> (Int32.ofInt b &&& 31)).toInt) (Nat.add pc len) lo st hp iv cl sl
  | .iushr => q_oAny (fun a b => ((Int32.ofInt a).toUInt32 >>> ((Int32.ofInt b).toUInt32 &&& Int32.toUInt32 31)).toInt32.toInt) (Nat.add pc len) lo st hp iv cl sl
  | .ineg => q_oNeg (Nat.add pc len) lo st hp iv cl sl
  | .ladd => q_oBin 1 (fun a b => q_w64 (Int.add a b)) (Nat.add pc len) lo st hp iv cl sl
  | .lsub => q_oBin 1 (fun a b => q_w64 (Int.sub a b)) (Nat.add pc len) lo st hp iv cl sl
  | .lmul => q_oBin 1 (fun a b => q_w64 (Int.mul a b)) (Nat.add pc len) lo st hp iv cl sl
  | .ldiv => q_oDiv 1 (fun a b => (Int64.ofInt a / Int64.ofInt b).toInt) q_w64 (Nat.add pc len) lo st hp iv cl sl
  | .lcmp => q_oLcmp (Nat.add pc len) lo st hp iv cl sl
  | .i2l => q_oI2l (Nat.add pc len) lo st hp iv cl sl
  | .l2i => q_oL2i (Nat.add pc len) lo st hp iv cl sl
  | .i2b => q_oUn 0 0 (fun a => ((Int32.ofInt a).toInt8.toInt32).toInt) (Nat.add pc len) lo st hp iv cl sl
  | .i2f => q_oUn 0 4 (fun a => Int.ofNat (FP.i2f (Int32.ofInt a)).toNat) (Nat.add pc len) lo st hp iv cl sl
  | .i2d => q_oUn 0 5 (fun a => Int.ofNat (FP.i2d (Int32.ofInt a)).toNat) (Nat.add pc len) lo st hp iv cl sl
  | .l2d => q_oUn 1 5 (fun a => Int.ofNat (FP.l2d (Int64.ofInt a)).toNat) (Nat.add pc len) lo st hp iv cl sl
  | .fneg => q_oUn 4 4 (fun a => Int.ofNat (FP.fneg (UInt32.ofNat a.toNat)).toNat) (Nat.add pc len) lo st hp iv cl sl
  | .fsub => q_oF2 FP.fsub (Nat.add pc len) lo st hp iv cl sl
  | .fdiv => q_oF2 FP.fdiv (Nat.add pc len) lo st hp iv cl sl
  | .dadd => q_oD2 FP.dadd (Nat.add pc len) lo st hp iv cl sl
  | .ddiv => q_oD2 FP.ddiv (Nat.add pc len) lo st hp iv cl sl
  | .fcmp o => q_oFc o (Nat.add pc len) lo st hp iv cl sl
  | .f2d => q_oF2d (Nat.add pc len) lo st hp iv cl sl
  | .dcmp o => q_oDc o (Nat.add pc len) lo st hp iv cl sl
  | .goto _ => q_nx x lo st hp iv cl sl
  | .ifCond c _ => q_oIf c x (Nat.add pc len) lo st hp iv cl sl
  | .if_icmp c _ => q_oIc c x (Nat.add pc len) lo st hp iv cl sl
  | .ifnull _ => q_oIfn x (Nat.add pc len) lo st hp iv cl sl
  | .tableswitch d l h o => q_oSw d l h o pc lo st hp iv cl sl
  | .iinc _ n => q_oInc x n (Nat.add pc len) lo st hp iv cl sl
  | .getfield _ => q_oGet x y (Nat.add pc len) lo st hp iv cl sl
  | .putfield _ => q_oPut x y v.toNat (Nat.add pc len) lo st hp iv cl sl
  | .getstatic _ => q_one (9, v) (Nat.add pc len) lo st hp iv cl sl
  | .arraylength => q_oLen sL (Nat.add pc len) lo st hp iv cl sl
  | .iaload => q_oAld 1 sL (Nat.add pc len) lo st hp iv cl sl
  | .baload => q_oAld 2 sL (Nat.add pc len) lo st hp iv cl sl
  | .laload => q_oAld 3 sL (Nat.add pc len) lo st hp iv cl sl
  | .daload => q_oAld 4 sL (Nat.add pc len) lo st hp iv cl sl
  | .aaload => q_oAld 5 sL (Nat.add pc len) lo st hp iv cl sl
  | .iastore => q_oAst 1 (Nat.add pc len) lo st hp iv cl sl
  | .bastore => q_oAst 2 (Nat.add pc len) lo st hp iv cl sl
  | .lastore => q_oAst 3 (Nat.add pc len) lo st hp iv cl sl
  | .dastore => q_oAst 4 (Nat.add pc len) lo st hp iv cl sl
  | .aastore => q_oAsr 6 (Nat.add pc len) lo st hp iv cl sl
  | .new _ => bif Nat.beq y 0 then q_oNew x (df x) mi.2.2.1.2.2.1 mi.2.2.1.2.2.2 (Nat.add pc len) lo st hp iv cl sl else q_oThr x mi st hp iv cl sl
  | .newarray _ => q_oNwa x (y, 0) mi.2.2.1.2.2.1 mi.2.2.1.2.2.2 (Nat.add pc len) lo st hp iv cl sl
  | .anewarray _ => q_oNwa 5 (3, 0) mi.2.2.1.2.2.1 mi.2.2.1.2.2.2 (Nat.add pc len) lo st hp iv cl sl
  | .invokevirtual _ => bif Nat.beq y 1 then q_oSl mi.2.2.1.1 mi.2.2.1.2.1 mi.2.2.1.2.2.1 mi.2.2.1.2.2.2 (Nat.add pc len) lo st hp iv cl sl else bif Nat.beq y 2 then q_oSc mi.2.2.1.1 mi.2.2.1.2.1 mi.2.2.1.2.2.1 mi.2.2.1.2.2.2 (Nat.add pc len) lo st hp iv cl sl else q_oCall cf mi (mt x) x y pc lo st hp iv cl sl
  | .invokestatic _ => bif Nat.beq y 10 then q_oMJ mi.2.2.1.1 mi.2.2.1.2.1 mi.2.2.1.2.2.1 mi.2.2.1.2.2.2 (Nat.add pc len) lo st hp iv cl sl else bif Nat.beq y 11 then q_oAJ mi.2.2.1.1 mi.2.2.1.2.1 mi.2.2.1.2.2.1 mi.2.2.1.2.2.2 (Nat.add pc len) lo st hp iv cl sl else bif Nat.beq y 12 then q_oMF mi.2.2.1.1 mi.2.2.1.2.1 mi.2.2.1.2.2.1 mi.2.2.1.2.2.2 (Nat.add pc len) lo st hp iv cl sl else bif Nat.beq y 6 then q_oM2 true mi.2.2.1.1 mi.2.2.1.2.1 mi.2.2.1.2.2.1 mi.2.2.1.2.2.2 (Nat.add pc len) lo st hp iv cl sl else bif Nat.beq y 7 then q_oM2 false mi.2.2.1.1 mi.2.2.1.2.1 mi.2.2.1.2.2.1 mi.2.2.1.2.2.2 (Nat.add pc len) lo st hp iv cl sl else bif Nat.beq y 8 then q_oAbs mi.2.2.1.1 mi.2.2.1.2.1 mi.2.2.1.2.2.1 mi.2.2.1.2.2.2 (Nat.add pc len) lo st hp iv cl sl else q_oCall cf mi (mt x) x y pc lo st hp iv cl sl
  | .invokespecial _ => bif Nat.beq y 5 then q_oObj mi.2.2.1.1 mi.2.2.1.2.1 (Nat.add pc len) lo st hp iv cl sl else q_oCall cf mi (mt x) x y pc lo st hp iv cl sl
  | .ireturn => bif Nat.beq mi.2.1.2.2.2 1 then q_ret 1 q_isI false mi st hp iv cl sl else q_ret 2 (Nat.beq 0) true mi st hp iv cl sl
  | .lreturn => q_ret 3 q_isJ false mi st hp iv cl sl
  | .freturn => q_ret 4 (Nat.beq 4) false mi st hp iv cl sl
  | .dreturn => q_ret 5 (Nat.beq 5) false mi st hp iv cl sl
  | .areturn => q_ret 6 (fun t => bif Nat.beq t 2 then true else bif Nat.beq t 3 then true else Nat.beq t 9) false mi st hp iv cl sl
  | .return_ => q_ret0 mi st hp iv cl sl
  | _ => none
theorem q_stB_e (mt : Nat → q_MI) (df : Nat → List q_V) (cf : Nat → List q_V → q_H → q_I → Option (List q_Lf)) (sL : Nat) (mi : q_MI) (pc : Nat) (lo : q_L) (st : List q_V) (hp : q_H) (iv : q_I) (cl sl : Nat) :
    q_step mt df cf sL mi (pc, lo, st, hp, iv, cl, sl) = q_if (Nat.ble (Nat.succ pc) mi.1.1) (q_stB mt df cf sL mi pc lo st hp iv cl sl (mi.1.2 pc).1 (mi.1.2 pc).2.1 (mi.1.2 pc).2.2.1 (mi.1.2 pc).2.2.2.1 (mi.1.2 pc).2.2.2.2) := rfl
def q_cat (i pc : Nat) (ins : Instr) (len x y : Nat) (v : Int) : Prop := Nat.ble (Nat.succ pc) (q_mt i).1.1 = true ∧ (q_mt i).1.2 pc = (ins, len, x, y, v)
theorem q_stp_c {i pc : Nat} {ins : Instr} {len x y : Nat} {v : Int} (he : q_cat i pc ins len x y v) (cf : Nat → List q_V → q_H → q_I → Option (List q_Lf)) (sL : Nat) (lo : q_L) (st : List q_V) (hp : q_H) (iv : q_I) (cl sl : Nat) :
    q_step q_mt q_df cf sL (q_mt i) (pc, lo, st, hp, iv, cl, sl) = q_stB q_mt q_df cf sL (q_mt i) pc lo st hp iv cl sl ins len x y v := by
  rw [q_stB_e, he.1, he.2]; rfl
section q_rows
variable {Γ : q_Γ} {K : Nat → q_Ly} {n i : Nat} {P : Nat → q_V → q_F → Prop}
/-- from c on the method i ends (kind of the end, answer, heap) as P says -/
def q_R (Γ : q_Γ) (K : Nat → q_Ly) (n i : Nat) (P : Nat → q_V → q_F → Prop) (c : q_C) : Prop := ∃ t v h, P t v h ∧ q_To Γ i [(t, v, q_hp K n h, [])] c
/-- the method x, called with ar in the heap h, ends as P says -/
def q_M (Γ : q_Γ) (K : Nat → q_Ly) (n x : Nat) (ar : List q_V) (h : q_F) (P : Nat → q_V → q_F → Prop) : Prop := ∃ t v h', P t v h' ∧ q_Ok Γ x ar (q_hp K n h) [(t, v, q_hp K n h', [])]
theorem q_R.st {c c' : q_C} (h : q_step q_mt q_df q_cf0 Γ.2.2.2.1 (q_mt i) c = some ([c'], [])) (k : q_R Γ K n i P c') : q_R Γ K n i P c := by
  obtain ⟨t, v, h', hP, hT⟩ := k
  exact ⟨t, v, h', hP, q_To.st (q_cf0_c Γ) h (fun c'' hc => by cases List.mem_singleton.mp hc; exact hT) (fun lf hl => by cases hl)⟩
theorem q_R.imp {c : q_C} {P' : Nat → q_V → q_F → Prop} (hP : ∀ t v h, P t v h → P' t v h) (k : q_R Γ K n i P c) : q_R Γ K n i P' c := by
  obtain ⟨t, v, h', h1, hT⟩ := k
  exact ⟨t, v, h', hP _ _ _ h1, hT⟩
theorem q_M.imp {x : Nat} {ar : List q_V} {h : q_F} {P' : Nat → q_V → q_F → Prop} (hP : ∀ t v h, P t v h → P' t v h) (k : q_M Γ K n x ar h P) : q_M Γ K n x ar h P' := by
  obtain ⟨t, v, h', h1, hT⟩ := k
  exact ⟨t, v, h', hP _ _ _ h1, hT⟩
variable {pc nx len x y : Nat} {v : Int} {lo lo' : q_L} {st : List q_V} {hp : q_H} {cl sl : Nat}
theorem q_ieq_t {a b : Int} (h : a = b) : q_ieq a b = true := by
  subst h
  rcases q_cmp_s a a with ⟨e, h1⟩ | ⟨e, h1⟩ | ⟨e, h1⟩
  · omega
  · unfold q_ieq; rw [e]; rfl
  · omega
theorem q_ieq_f {a b : Int} (h : a ≠ b) : q_ieq a b = false := by
  cases h1 : q_ieq a b with
  | false => rfl
  | true => exact absurd (q_ieq_i h1) h
theorem q_ile_t {a b : Int} (h : a ≤ b) : q_ile a b = true := by
  cases h1 : q_ile a b with
  | true => rfl
  | false => have := q_ile_n h1; omega
theorem q_ile_f {a b : Int} (h : b < a) : q_ile a b = false := by
  cases h1 : q_ile a b with
  | false => rfl
  | true => have := q_ile_i h1; omega
/-- the step of a state whose code is known -/
theorem q_R.sB {ins : Instr} {c' : q_C} (he : q_cat i pc ins len x y v) (h : q_stB q_mt q_df q_cf0 Γ.2.2.2.1 (q_mt i) pc lo st hp [] cl sl ins len x y v = some ([c'], [])) (k : q_R Γ K n i P c') : q_R Γ K n i P (pc, lo, st, hp, [], cl, sl) :=
  k.st ((q_stp_c he _ _ _ _ _ _ _ _).trans h)
theorem r_iload_n {kk : Fin 4} {z : Int} (he : q_cat i pc (.iload_n kk) len x y v) (hl : q_lk x lo = some (0, z)) (hn : Nat.add pc len = nx) (k : q_R Γ K n i P (nx, lo, (0, z) :: st, hp, [], cl, sl)) : q_R Γ K n i P (pc, lo, st, hp, [], cl, sl) := by
  subst hn
  exact q_R.sB he (by
    show q_oLoad q_isK x _ lo st hp [] cl sl = _
    unfold q_oLoad
    rw [hl]; rfl) k
theorem r_iload {kk : Nat} {z : Int} (he : q_cat i pc (.iload kk) len x y v) (hl : q_lk x lo = some (0, z)) (hn : Nat.add pc len = nx) (k : q_R Γ K n i P (nx, lo, (0, z) :: st, hp, [], cl, sl)) : q_R Γ K n i P (pc, lo, st, hp, [], cl, sl) := by
  subst hn
  exact q_R.sB he (by
    show q_oLoad q_isK x _ lo st hp [] cl sl = _
    unfold q_oLoad
    rw [hl]; rfl) k
theorem r_lload_n {kk : Fin 4} {z : Int} (he : q_cat i pc (.lload_n kk) len x y v) (hl : q_lk x lo = some (1, z)) (hn : Nat.add pc len = nx) (k : q_R Γ K n i P (nx, lo, (1, z) :: st, hp, [], cl, sl)) : q_R Γ K n i P (pc, lo, st, hp, [], cl, sl) := by
  subst hn
  exact q_R.sB he (by
    show q_oLoad q_isJ x _ lo st hp [] cl sl = _
    unfold q_oLoad
    rw [hl]; rfl) k
theorem r_lload {kk : Nat} {z : Int} (he : q_cat i pc (.lload kk) len x y v) (hl : q_lk x lo = some (1, z)) (hn : Nat.add pc len = nx) (k : q_R Γ K n i P (nx, lo, (1, z) :: st, hp, [], cl, sl)) : q_R Γ K n i P (pc, lo, st, hp, [], cl, sl) := by
  subst hn
  exact q_R.sB he (by
    show q_oLoad q_isJ x _ lo st hp [] cl sl = _
    unfold q_oLoad
    rw [hl]; rfl) k
theorem r_dload_n {kk : Fin 4} {z : Int} (he : q_cat i pc (.dload_n kk) len x y v) (hl : q_lk x lo = some (5, z)) (hn : Nat.add pc len = nx) (k : q_R Γ K n i P (nx, lo, (5, z) :: st, hp, [], cl, sl)) : q_R Γ K n i P (pc, lo, st, hp, [], cl, sl) := by
  subst hn
  exact q_R.sB he (by
    show q_oLoad (Nat.beq 5) x _ lo st hp [] cl sl = _
    unfold q_oLoad
    rw [hl]; rfl) k
theorem r_dload {kk : Nat} {z : Int} (he : q_cat i pc (.dload kk) len x y v) (hl : q_lk x lo = some (5, z)) (hn : Nat.add pc len = nx) (k : q_R Γ K n i P (nx, lo, (5, z) :: st, hp, [], cl, sl)) : q_R Γ K n i P (pc, lo, st, hp, [], cl, sl) := by
  subst hn
  exact q_R.sB he (by
    show q_oLoad (Nat.beq 5) x _ lo st hp [] cl sl = _
    unfold q_oLoad
    rw [hl]; rfl) k
theorem r_fload_n {kk : Fin 4} {z : Int} (he : q_cat i pc (.fload_n kk) len x y v) (hl : q_lk x lo = some (4, z)) (hn : Nat.add pc len = nx) (k : q_R Γ K n i P (nx, lo, (4, z) :: st, hp, [], cl, sl)) : q_R Γ K n i P (pc, lo, st, hp, [], cl, sl) := by
  subst hn
  exact q_R.sB he (by
    show q_oLoad (Nat.beq 4) x _ lo st hp [] cl sl = _
    unfold q_oLoad
    rw [hl]; rfl) k
theorem r_fload {kk : Nat} {z : Int} (he : q_cat i pc (.fload kk) len x y v) (hl : q_lk x lo = some (4, z)) (hn : Nat.add pc len = nx) (k : q_R Γ K n i P (nx, lo, (4, z) :: st, hp, [], cl, sl)) : q_R Γ K n i P (pc, lo, st, hp, [], cl, sl) := by
  subst hn
  exact q_R.sB he (by
    show q_oLoad (Nat.beq 4) x _ lo st hp [] cl sl = _
    unfold q_oLoad
    rw [hl]; rfl) k
theorem r_aload_n {kk : Fin 4} {z : Int} (he : q_cat i pc (.aload_n kk) len x y v) (hl : q_lk x lo = some (2, z)) (hn : Nat.add pc len = nx) (k : q_R Γ K n i P (nx, lo, (2, z) :: st, hp, [], cl, sl)) : q_R Γ K n i P (pc, lo, st, hp, [], cl, sl) := by
  subst hn
  exact q_R.sB he (by
    show q_oLoad q_isN x _ lo st hp [] cl sl = _
    unfold q_oLoad
    rw [hl]; rfl) k
theorem r_aload {kk : Nat} {z : Int} (he : q_cat i pc (.aload kk) len x y v) (hl : q_lk x lo = some (2, z)) (hn : Nat.add pc len = nx) (k : q_R Γ K n i P (nx, lo, (2, z) :: st, hp, [], cl, sl)) : q_R Γ K n i P (pc, lo, st, hp, [], cl, sl) := by
  subst hn
  exact q_R.sB he (by
    show q_oLoad q_isN x _ lo st hp [] cl sl = _
    unfold q_oLoad
    rw [hl]; rfl) k
theorem r_aload9 {kk : Fin 4} {z : Int} (he : q_cat i pc (.aload_n kk) len x y v) (hl : q_lk x lo = some (9, z)) (hn : Nat.add pc len = nx) (k : q_R Γ K n i P (nx, lo, (9, z) :: st, hp, [], cl, sl)) : q_R Γ K n i P (pc, lo, st, hp, [], cl, sl) := by
  subst hn
  exact q_R.sB he (by
    show q_oLoad q_isN x _ lo st hp [] cl sl = _
    unfold q_oLoad
    rw [hl]; rfl) k
theorem r_istore_n {kk : Fin 4} {z : Int} (he : q_cat i pc (.istore_n kk) len x y v) (hs : q_sto x false (0, z) lo = lo') (hlen : Nat.ble (q_len lo') 32 = true) (hn : Nat.add pc len = nx) (k : q_R Γ K n i P (nx, lo', st, hp, [], cl, sl)) : q_R Γ K n i P (pc, lo, (0, z) :: st, hp, [], cl, sl) := by
  subst hn
  exact q_R.sB he (by
    show q_oStore q_isI false x _ lo (_ :: st) hp [] cl sl = _
    unfold q_oStore
    show q_if _ (q_if _ (q_nx _ (q_sto x false (0, z) lo) st hp [] cl sl)) = _
    rw [hs, hlen]; rfl) k
theorem r_istore {kk : Nat} {z : Int} (he : q_cat i pc (.istore kk) len x y v) (hs : q_sto x false (0, z) lo = lo') (hlen : Nat.ble (q_len lo') 32 = true) (hn : Nat.add pc len = nx) (k : q_R Γ K n i P (nx, lo', st, hp, [], cl, sl)) : q_R Γ K n i P (pc, lo, (0, z) :: st, hp, [], cl, sl) := by
  subst hn
  exact q_R.sB he (by
    show q_oStore q_isI false x _ lo (_ :: st) hp [] cl sl = _
    unfold q_oStore
    show q_if _ (q_if _ (q_nx _ (q_sto x false (0, z) lo) st hp [] cl sl)) = _
    rw [hs, hlen]; rfl) k
theorem r_lstore_n {kk : Fin 4} {z : Int} (he : q_cat i pc (.lstore_n kk) len x y v) (hs : q_sto x true (1, z) lo = lo') (hlen : Nat.ble (q_len lo') 32 = true) (hn : Nat.add pc len = nx) (k : q_R Γ K n i P (nx, lo', st, hp, [], cl, sl)) : q_R Γ K n i P (pc, lo, (1, z) :: st, hp, [], cl, sl) := by
  subst hn
  exact q_R.sB he (by
    show q_oStore q_isJ true x _ lo (_ :: st) hp [] cl sl = _
    unfold q_oStore
    show q_if _ (q_if _ (q_nx _ (q_sto x true (1, z) lo) st hp [] cl sl)) = _
    rw [hs, hlen]; rfl) k
theorem r_lstore {kk : Nat} {z : Int} (he : q_cat i pc (.lstore kk) len x y v) (hs : q_sto x true (1, z) lo = lo') (hlen : Nat.ble (q_len lo') 32 = true) (hn : Nat.add pc len = nx) (k : q_R Γ K n i P (nx, lo', st, hp, [], cl, sl)) : q_R Γ K n i P (pc, lo, (1, z) :: st, hp, [], cl, sl) := by
  subst hn
  exact q_R.sB he (by
    show q_oStore q_isJ true x _ lo (_ :: st) hp [] cl sl = _
    unfold q_oStore
    show q_if _ (q_if _ (q_nx _ (q_sto x true (1, z) lo) st hp [] cl sl)) = _
    rw [hs, hlen]; rfl) k
theorem r_dstore_n {kk : Fin 4} {z : Int} (he : q_cat i pc (.dstore_n kk) len x y v) (hs : q_sto x true (5, z) lo = lo') (hlen : Nat.ble (q_len lo') 32 = true) (hn : Nat.add pc len = nx) (k : q_R Γ K n i P (nx, lo', st, hp, [], cl, sl)) : q_R Γ K n i P (pc, lo, (5, z) :: st, hp, [], cl, sl) := by
  subst hn
  exact q_R.sB he (by
    show q_oStore (Nat.beq 5) true x _ lo (_ :: st) hp [] cl sl = _
    unfold q_oStore
    show q_if _ (q_if _ (q_nx _ (q_sto x true (5, z) lo) st hp [] cl sl)) = _
    rw [hs, hlen]; rfl) k
theorem r_dstore {kk : Nat} {z : Int} (he : q_cat i pc (.dstore kk) len x y v) (hs : q_sto x true (5, z) lo = lo') (hlen : Nat.ble (q_len lo') 32 = true) (hn : Nat.add pc len = nx) (k : q_R Γ K n i P (nx, lo', st, hp, [], cl, sl)) : q_R Γ K n i P (pc, lo, (5, z) :: st, hp, [], cl, sl) := by
  subst hn
  exact q_R.sB he (by
    show q_oStore (Nat.beq 5) true x _ lo (_ :: st) hp [] cl sl = _
    unfold q_oStore
    show q_if _ (q_if _ (q_nx _ (q_sto x true (5, z) lo) st hp [] cl sl)) = _
    rw [hs, hlen]; rfl) k
theorem r_fstore_n {kk : Fin 4} {z : Int} (he : q_cat i pc (.fstore_n kk) len x y v) (hs : q_sto x false (4, z) lo = lo') (hlen : Nat.ble (q_len lo') 32 = true) (hn : Nat.add pc len = nx) (k : q_R Γ K n i P (nx, lo', st, hp, [], cl, sl)) : q_R Γ K n i P (pc, lo, (4, z) :: st, hp, [], cl, sl) := by
  subst hn
  exact q_R.sB he (by
    show q_oStore (Nat.beq 4) false x _ lo (_ :: st) hp [] cl sl = _
    unfold q_oStore
    show q_if _ (q_if _ (q_nx _ (q_sto x false (4, z) lo) st hp [] cl sl)) = _
    rw [hs, hlen]; rfl) k
theorem r_fstore {kk : Nat} {z : Int} (he : q_cat i pc (.fstore kk) len x y v) (hs : q_sto x false (4, z) lo = lo') (hlen : Nat.ble (q_len lo') 32 = true) (hn : Nat.add pc len = nx) (k : q_R Γ K n i P (nx, lo', st, hp, [], cl, sl)) : q_R Γ K n i P (pc, lo, (4, z) :: st, hp, [], cl, sl) := by
  subst hn
  exact q_R.sB he (by
    show q_oStore (Nat.beq 4) false x _ lo (_ :: st) hp [] cl sl = _
    unfold q_oStore
    show q_if _ (q_if _ (q_nx _ (q_sto x false (4, z) lo) st hp [] cl sl)) = _
    rw [hs, hlen]; rfl) k
theorem r_astore_n {kk : Fin 4} {z : Int} (he : q_cat i pc (.astore_n kk) len x y v) (hs : q_sto x false (2, z) lo = lo') (hlen : Nat.ble (q_len lo') 32 = true) (hn : Nat.add pc len = nx) (k : q_R Γ K n i P (nx, lo', st, hp, [], cl, sl)) : q_R Γ K n i P (pc, lo, (2, z) :: st, hp, [], cl, sl) := by
  subst hn
  exact q_R.sB he (by
    show q_oStore q_isN false x _ lo (_ :: st) hp [] cl sl = _
    unfold q_oStore
    show q_if _ (q_if _ (q_nx _ (q_sto x false (2, z) lo) st hp [] cl sl)) = _
    rw [hs, hlen]; rfl) k
theorem r_astore {kk : Nat} {z : Int} (he : q_cat i pc (.astore kk) len x y v) (hs : q_sto x false (2, z) lo = lo') (hlen : Nat.ble (q_len lo') 32 = true) (hn : Nat.add pc len = nx) (k : q_R Γ K n i P (nx, lo', st, hp, [], cl, sl)) : q_R Γ K n i P (pc, lo, (2, z) :: st, hp, [], cl, sl) := by
  subst hn
  exact q_R.sB he (by
    show q_oStore q_isN false x _ lo (_ :: st) hp [] cl sl = _
    unfold q_oStore
    show q_if _ (q_if _ (q_nx _ (q_sto x false (2, z) lo) st hp [] cl sl)) = _
    rw [hs, hlen]; rfl) k
theorem r_iconst {nn : Int} (he : q_cat i pc (.iconst nn) len x y v) (hn : Nat.add pc len = nx) (k : q_R Γ K n i P (nx, lo, (0, nn) :: st, hp, [], cl, sl)) : q_R Γ K n i P (pc, lo, st, hp, [], cl, sl) := by
  subst hn
  exact q_R.sB he rfl k
theorem r_bipush {nn : Int} (he : q_cat i pc (.bipush nn) len x y v) (hn : Nat.add pc len = nx) (k : q_R Γ K n i P (nx, lo, (0, nn) :: st, hp, [], cl, sl)) : q_R Γ K n i P (pc, lo, st, hp, [], cl, sl) := by
  subst hn
  exact q_R.sB he rfl k
theorem r_sipush {nn : Int} (he : q_cat i pc (.sipush nn) len x y v) (hn : Nat.add pc len = nx) (k : q_R Γ K n i P (nx, lo, (0, nn) :: st, hp, [], cl, sl)) : q_R Γ K n i P (pc, lo, st, hp, [], cl, sl) := by
  subst hn
  exact q_R.sB he rfl k
theorem r_lconst {nn : Fin 2} (he : q_cat i pc (.lconst nn) len x y v) (hn : Nat.add pc len = nx) (k : q_R Γ K n i P (nx, lo, (1, v) :: st, hp, [], cl, sl)) : q_R Γ K n i P (pc, lo, st, hp, [], cl, sl) := by
  subst hn
  exact q_R.sB he rfl k
theorem r_ldc {nn : Nat} (he : q_cat i pc (.ldc nn) len x y v) (hy : y = 0) (hn : Nat.add pc len = nx) (k : q_R Γ K n i P (nx, lo, (0, v) :: st, hp, [], cl, sl)) : q_R Γ K n i P (pc, lo, st, hp, [], cl, sl) := by
  subst hn
  exact q_R.sB he (by subst hy; rfl) k
theorem r_ldc2 {nn : Nat} (he : q_cat i pc (.ldc2_w nn) len x y v) (hy : y = 0) (hn : Nat.add pc len = nx) (k : q_R Γ K n i P (nx, lo, (1, v) :: st, hp, [], cl, sl)) : q_R Γ K n i P (pc, lo, st, hp, [], cl, sl) := by
  subst hn
  exact q_R.sB he (by subst hy; rfl) k
theorem r_dup {q : q_V} (he : q_cat i pc (.dup) len x y v) (h2 : q_is2 q.1 = false) (hn : Nat.add pc len = nx) (k : q_R Γ K n i P (nx, lo, q :: q :: st, hp, [], cl, sl)) : q_R Γ K n i P (pc, lo, q :: st, hp, [], cl, sl) := by
  subst hn
  exact q_R.sB he (by
    show (bif q_is2 q.1 then none else q_nx _ lo (q :: q :: st) hp [] cl sl) = _
    rw [h2]; rfl) k
theorem r_dup2w {q : q_V} (he : q_cat i pc (.dup2) len x y v) (h2 : q_is2 q.1 = true) (hn : Nat.add pc len = nx) (k : q_R Γ K n i P (nx, lo, q :: q :: st, hp, [], cl, sl)) : q_R Γ K n i P (pc, lo, q :: st, hp, [], cl, sl) := by
  subst hn
  exact q_R.sB he (by
    show (bif q_is2 q.1 then q_nx _ lo (q :: q :: st) hp [] cl sl else _) = _
    rw [h2]; rfl) k
theorem r_dup2 {q r : q_V} (he : q_cat i pc (.dup2) len x y v) (h1 : q_is2 q.1 = false) (h2 : q_is2 r.1 = false) (hn : Nat.add pc len = nx) (k : q_R Γ K n i P (nx, lo, q :: r :: q :: r :: st, hp, [], cl, sl)) : q_R Γ K n i P (pc, lo, q :: r :: st, hp, [], cl, sl) := by
  subst hn
  exact q_R.sB he (by
    show (bif q_is2 q.1 then _ else (bif q_is2 r.1 then none else q_nx _ lo (q :: r :: q :: r :: st) hp [] cl sl)) = _
    rw [h1, h2]; rfl) k
theorem r_pop {q : q_V} (he : q_cat i pc (.pop) len x y v) (h2 : q_is2 q.1 = false) (hn : Nat.add pc len = nx) (k : q_R Γ K n i P (nx, lo, st, hp, [], cl, sl)) : q_R Γ K n i P (pc, lo, q :: st, hp, [], cl, sl) := by
  subst hn
  exact q_R.sB he (by
    show (bif q_is2 q.1 then none else q_nx _ lo st hp [] cl sl) = _
    rw [h2]; rfl) k
theorem r_iadd {a b r : Int} (he : q_cat i pc (.iadd) len x y v) (hr : q_w32 (a + b) = r) (hn : Nat.add pc len = nx) (k : q_R Γ K n i P (nx, lo, (0, r) :: st, hp, [], cl, sl)) : q_R Γ K n i P (pc, lo, (0, b) :: (0, a) :: st, hp, [], cl, sl) := by
  subst hn
  exact q_R.sB he (by rw [← hr]; rfl) k
theorem r_isub {a b r : Int} (he : q_cat i pc (.isub) len x y v) (hr : q_w32 (a - b) = r) (hn : Nat.add pc len = nx) (k : q_R Γ K n i P (nx, lo, (0, r) :: st, hp, [], cl, sl)) : q_R Γ K n i P (pc, lo, (0, b) :: (0, a) :: st, hp, [], cl, sl) := by
  subst hn
  exact q_R.sB he (by rw [← hr]; rfl) k
theorem r_imul {a b r : Int} (he : q_cat i pc (.imul) len x y v) (hr : q_w32 (a * b) = r) (hn : Nat.add pc len = nx) (k : q_R Γ K n i P (nx, lo, (0, r) :: st, hp, [], cl, sl)) : q_R Γ K n i P (pc, lo, (0, b) :: (0, a) :: st, hp, [], cl, sl) := by
  subst hn
  exact q_R.sB he (by rw [← hr]; rfl) k
theorem r_ladd {a b r : Int} (he : q_cat i pc (.ladd) len x y v) (hr : q_w64 (a + b) = r) (hn : Nat.add pc len = nx) (k : q_R Γ K n i P (nx, lo, (1, r) :: st, hp, [], cl, sl)) : q_R Γ K n i P (pc, lo, (1, b) :: (1, a) :: st, hp, [], cl, sl) := by
  subst hn
  exact q_R.sB he (by rw [← hr]; rfl) k
theorem r_lsub {a b r : Int} (he : q_cat i pc (.lsub) len x y v) (hr : q_w64 (a - b) = r) (hn : Nat.add pc len = nx) (k : q_R Γ K n i P (nx, lo, (1, r) :: st, hp, [], cl, sl)) : q_R Γ K n i P (pc, lo, (1, b) :: (1, a) :: st, hp, [], cl, sl) := by
  subst hn
  exact q_R.sB he (by rw [← hr]; rfl) k
theorem r_lmul {a b r : Int} (he : q_cat i pc (.lmul) len x y v) (hr : q_w64 (a * b) = r) (hn : Nat.add pc len = nx) (k : q_R Γ K n i P (nx, lo, (1, r) :: st, hp, [], cl, sl)) : q_R Γ K n i P (pc, lo, (1, b) :: (1, a) :: st, hp, [], cl, sl) := by
  subst hn
  exact q_R.sB he (by rw [← hr]; rfl) k
theorem r_idiv {a b r : Int} (he : q_cat i pc (.idiv) len x y v) (h0 : q_w32 b ≠ 0) (hr : (Int32.ofInt a / Int32.ofInt b).toInt = r) (hn : Nat.add pc len = nx) (k : q_R Γ K n i P (nx, lo, (0, r) :: st, hp, [], cl, sl)) : q_R Γ K n i P (pc, lo, (0, b) :: (0, a) :: st, hp, [], cl, sl) := by
  subst hn
  exact q_R.sB he (by
    show q_if (bif q_ieq (q_w32 b) 0 then false else true) (q_nx _ lo _ hp [] cl sl) = _
    rw [q_ieq_f h0, ← hr]; rfl) k
theorem r_irem {a b r : Int} (he : q_cat i pc (.irem) len x y v) (h0 : q_w32 b ≠ 0) (hr : (Int32.ofInt a - Int32.ofInt a / Int32.ofInt b * Int32.ofInt b).toInt = r) (hn : Nat.add pc len = nx) (k : q_R Γ K n i P (nx, lo, (0, r) :: st, hp, [], cl, sl)) : q_R Γ K n i P (pc, lo, (0, b) :: (0, a) :: st, hp, [], cl, sl) := by
  subst hn
  exact q_R.sB he (by
    show q_if (bif q_ieq (q_w32 b) 0 then false else true) (q_nx _ lo _ hp [] cl sl) = _
    rw [q_ieq_f h0, ← hr]; rfl) k
theorem r_ldiv {a b r : Int} (he : q_cat i pc (.ldiv) len x y v) (h0 : q_w64 b ≠ 0) (hr : (Int64.ofInt a / Int64.ofInt b).toInt = r) (hn : Nat.add pc len = nx) (k : q_R Γ K n i P (nx, lo, (1, r) :: st, hp, [], cl, sl)) : q_R Γ K n i P (pc, lo, (1, b) :: (1, a) :: st, hp, [], cl, sl) := by
  subst hn
  exact q_R.sB he (by
    show q_if (bif q_ieq (q_w64 b) 0 then false else true) (q_nx _ lo _ hp [] cl sl) = _
    rw [q_ieq_f h0, ← hr]; rfl) k
theorem r_ior {a b r : Int} (he : q_cat i pc (.ior) len x y v) (hr : (Int32.ofInt a ||| Int32.ofInt b).toInt = r) (hn : Nat.add pc len = nx) (k : q_R Γ K n i P (nx, lo, (0, r) :: st, hp, [], cl, sl)) : q_R Γ K n i P (pc, lo, (0, b) :: (0, a) :: st, hp, [], cl, sl) := by
  subst hn
  exact q_R.sB he (by rw [← hr]; rfl) k
theorem r_ishl {a b r : Int} (he : q_cat i pc (.ishl) len x y v) (hr : (Int32.ofInt a <<< (Int32.ofInt b &&& 31)).toInt = r) (hn : Nat.add pc len = nx) (k : q_R Γ K n i P (nx, lo, (0, r) :: st, hp, [], cl, sl)) : q_R Γ K n i P (pc, lo, (0, b) :: (0, a) :: st, hp, [], cl, sl) := by
  subst hn
  exact q_R.sB he (by rw [← hr]; rfl) k
theorem r_ishr {a b r : Int} (he : q_cat i pc (.ishr) len x y v) (hr : (Int32.ofInt a >>> (Int32.ofInt b &&& 31)).toInt = r) (hn : Nat.add pc len = nx) (k : q_R Γ K n i P (nx, lo, (0, r) :: st, hp, [], cl, sl)) : q_R Γ K n i P (pc, lo, (0, b) :: (0, a) :: st, hp, [], cl, sl) := by
  subst hn
  exact q_R.sB he (by rw [← hr]; rfl) k
theorem r_iushr {a b r : Int} (he : q_cat i pc (.iushr) len x y v) (hr : ((Int32.ofInt a).toUInt32 >>> ((Int32.ofInt b).toUInt32 &&& Int32.toUInt32 31)).toInt32.toInt = r) (hn : Nat.add pc len = nx) (k : q_R Γ K n i P (nx, lo, (0, r) :: st, hp, [], cl, sl)) : q_R Γ K n i P (pc, lo, (0, b) :: (0, a) :: st, hp, [], cl, sl) := by
  subst hn
  exact q_R.sB he (by rw [← hr]; rfl) k
theorem r_iand {a b r : Int} (he : q_cat i pc (.iand) len x y v) (hr : (Int32.ofInt a &&& Int32.ofInt b).toInt = r) (hn : Nat.add pc len = nx) (k : q_R Γ K n i P (nx, lo, (0, r) :: st, hp, [], cl, sl)) : q_R Γ K n i P (pc, lo, (0, b) :: (0, a) :: st, hp, [], cl, sl) := by
  subst hn
  exact q_R.sB he (by rw [← hr]; rfl) k
theorem r_ineg {a r : Int} (he : q_cat i pc (.ineg) len x y v) (hr : (-(Int32.ofInt a)).toInt = r) (hn : Nat.add pc len = nx) (k : q_R Γ K n i P (nx, lo, (0, r) :: st, hp, [], cl, sl)) : q_R Γ K n i P (pc, lo, (0, a) :: st, hp, [], cl, sl) := by
  subst hn
  exact q_R.sB he (by rw [← hr]; rfl) k
theorem r_i2l {a r : Int} (he : q_cat i pc (.i2l) len x y v) (hr : q_w32 a = r) (hn : Nat.add pc len = nx) (k : q_R Γ K n i P (nx, lo, (1, r) :: st, hp, [], cl, sl)) : q_R Γ K n i P (pc, lo, (0, a) :: st, hp, [], cl, sl) := by
  subst hn
  exact q_R.sB he (by rw [← hr]; rfl) k
theorem r_l2i {a r : Int} (he : q_cat i pc (.l2i) len x y v) (hr : q_w32 a = r) (hn : Nat.add pc len = nx) (k : q_R Γ K n i P (nx, lo, (0, r) :: st, hp, [], cl, sl)) : q_R Γ K n i P (pc, lo, (1, a) :: st, hp, [], cl, sl) := by
  subst hn
  exact q_R.sB he (by rw [← hr]; rfl) k
theorem r_i2b {a r : Int} (he : q_cat i pc (.i2b) len x y v) (hr : ((Int32.ofInt a).toInt8.toInt32).toInt = r) (hn : Nat.add pc len = nx) (k : q_R Γ K n i P (nx, lo, (0, r) :: st, hp, [], cl, sl)) : q_R Γ K n i P (pc, lo, (0, a) :: st, hp, [], cl, sl) := by
  subst hn
  exact q_R.sB he (by rw [← hr]; rfl) k
theorem r_i2f {a r : Int} (he : q_cat i pc (.i2f) len x y v) (hr : Int.ofNat (FP.i2f (Int32.ofInt a)).toNat = r) (hn : Nat.add pc len = nx) (k : q_R Γ K n i P (nx, lo, (4, r) :: st, hp, [], cl, sl)) : q_R Γ K n i P (pc, lo, (0, a) :: st, hp, [], cl, sl) := by
  subst hn
  exact q_R.sB he (by rw [← hr]; rfl) k
theorem r_i2d {a r : Int} (he : q_cat i pc (.i2d) len x y v) (hr : Int.ofNat (FP.i2d (Int32.ofInt a)).toNat = r) (hn : Nat.add pc len = nx) (k : q_R Γ K n i P (nx, lo, (5, r) :: st, hp, [], cl, sl)) : q_R Γ K n i P (pc, lo, (0, a) :: st, hp, [], cl, sl) := by
  subst hn
  exact q_R.sB he (by rw [← hr]; rfl) k
theorem r_l2d {a r : Int} (he : q_cat i pc (.l2d) len x y v) (hr : Int.ofNat (FP.l2d (Int64.ofInt a)).toNat = r) (hn : Nat.add pc len = nx) (k : q_R Γ K n i P (nx, lo, (5, r) :: st, hp, [], cl, sl)) : q_R Γ K n i P (pc, lo, (1, a) :: st, hp, [], cl, sl) := by
  subst hn
  exact q_R.sB he (by rw [← hr]; rfl) k
theorem r_fneg {a r : Int} (he : q_cat i pc (.fneg) len x y v) (hr : Int.ofNat (FP.fneg (UInt32.ofNat a.toNat)).toNat = r) (hn : Nat.add pc len = nx) (k : q_R Γ K n i P (nx, lo, (4, r) :: st, hp, [], cl, sl)) : q_R Γ K n i P (pc, lo, (4, a) :: st, hp, [], cl, sl) := by
  subst hn
  exact q_R.sB he (by rw [← hr]; rfl) k
theorem r_fsub {a b r : Int} (he : q_cat i pc (.fsub) len x y v) (hne : q_n32 (FP.fsub (UInt32.ofNat a.toNat) (UInt32.ofNat b.toNat)) = true) (hr : Int.ofNat (FP.fsub (UInt32.ofNat a.toNat) (UInt32.ofNat b.toNat)).toNat = r) (hn : Nat.add pc len = nx) (k : q_R Γ K n i P (nx, lo, (4, r) :: st, hp, [], cl, sl)) : q_R Γ K n i P (pc, lo, (4, b) :: (4, a) :: st, hp, [], cl, sl) := by
  subst hn
  exact q_R.sB he (by
    rw [← hr]
    show q_if (q_n32 (FP.fsub (UInt32.ofNat a.toNat) (UInt32.ofNat b.toNat))) _ = _
    rw [hne]; rfl) k
theorem r_fdiv {a b r : Int} (he : q_cat i pc (.fdiv) len x y v) (hne : q_n32 (FP.fdiv (UInt32.ofNat a.toNat) (UInt32.ofNat b.toNat)) = true) (hr : Int.ofNat (FP.fdiv (UInt32.ofNat a.toNat) (UInt32.ofNat b.toNat)).toNat = r) (hn : Nat.add pc len = nx) (k : q_R Γ K n i P (nx, lo, (4, r) :: st, hp, [], cl, sl)) : q_R Γ K n i P (pc, lo, (4, b) :: (4, a) :: st, hp, [], cl, sl) := by
  subst hn
  exact q_R.sB he (by
    rw [← hr]
    show q_if (q_n32 (FP.fdiv (UInt32.ofNat a.toNat) (UInt32.ofNat b.toNat))) _ = _
    rw [hne]; rfl) k
theorem r_dadd {a b r : Int} (he : q_cat i pc (.dadd) len x y v) (hne : q_n64 (FP.dadd (UInt64.ofNat a.toNat) (UInt64.ofNat b.toNat)) = true) (hr : Int.ofNat (FP.dadd (UInt64.ofNat a.toNat) (UInt64.ofNat b.toNat)).toNat = r) (hn : Nat.add pc len = nx) (k : q_R Γ K n i P (nx, lo, (5, r) :: st, hp, [], cl, sl)) : q_R Γ K n i P (pc, lo, (5, b) :: (5, a) :: st, hp, [], cl, sl) := by
  subst hn
  exact q_R.sB he (by
    rw [← hr]
    show q_if (q_n64 (FP.dadd (UInt64.ofNat a.toNat) (UInt64.ofNat b.toNat))) _ = _
    rw [hne]; rfl) k
theorem r_ddiv {a b r : Int} (he : q_cat i pc (.ddiv) len x y v) (hne : q_n64 (FP.ddiv (UInt64.ofNat a.toNat) (UInt64.ofNat b.toNat)) = true) (hr : Int.ofNat (FP.ddiv (UInt64.ofNat a.toNat) (UInt64.ofNat b.toNat)).toNat = r) (hn : Nat.add pc len = nx) (k : q_R Γ K n i P (nx, lo, (5, r) :: st, hp, [], cl, sl)) : q_R Γ K n i P (pc, lo, (5, b) :: (5, a) :: st, hp, [], cl, sl) := by
  subst hn
  exact q_R.sB he (by
    rw [← hr]
    show q_if (q_n64 (FP.ddiv (UInt64.ofNat a.toNat) (UInt64.ofNat b.toNat))) _ = _
    rw [hne]; rfl) k
theorem r_f2d {a r : Int} (he : q_cat i pc (.f2d) len x y v) (hne : q_n64 (FP.f2d (UInt32.ofNat a.toNat)) = true) (hr : Int.ofNat (FP.f2d (UInt32.ofNat a.toNat)).toNat = r) (hn : Nat.add pc len = nx) (k : q_R Γ K n i P (nx, lo, (5, r) :: st, hp, [], cl, sl)) : q_R Γ K n i P (pc, lo, (4, a) :: st, hp, [], cl, sl) := by
  subst hn
  exact q_R.sB he (by
    rw [← hr]
    show q_if (q_n64 (FP.f2d (UInt32.ofNat a.toNat))) _ = _
    rw [hne]; rfl) k
theorem r_fcmp {a b r : Int} {o : CmpOp} (he : q_cat i pc (.fcmp o) len x y v) (hr : (Op.cmpValue (FP.fcmp (UInt32.ofNat a.toNat) (UInt32.ofNat b.toNat)) o).toInt = r) (hn : Nat.add pc len = nx) (k : q_R Γ K n i P (nx, lo, (0, r) :: st, hp, [], cl, sl)) : q_R Γ K n i P (pc, lo, (4, b) :: (4, a) :: st, hp, [], cl, sl) := by
  subst hn
  exact q_R.sB he (by rw [← hr]; rfl) k
theorem r_dcmp {a b r : Int} {o : CmpOp} (he : q_cat i pc (.dcmp o) len x y v) (hr : (Op.cmpValue (FP.dcmp (UInt64.ofNat a.toNat) (UInt64.ofNat b.toNat)) o).toInt = r) (hn : Nat.add pc len = nx) (k : q_R Γ K n i P (nx, lo, (0, r) :: st, hp, [], cl, sl)) : q_R Γ K n i P (pc, lo, (5, b) :: (5, a) :: st, hp, [], cl, sl) := by
  subst hn
  exact q_R.sB he (by rw [← hr]; rfl) k
theorem r_fconst {nn : Fin 3} (he : q_cat i pc (.fconst nn) len x y v) (hn : Nat.add pc len = nx) (k : q_R Γ K n i P (nx, lo, (4, v) :: st, hp, [], cl, sl)) : q_R Γ K n i P (pc, lo, st, hp, [], cl, sl) := by
  subst hn
  exact q_R.sB he rfl k
theorem r_dconst {nn : Fin 2} (he : q_cat i pc (.dconst nn) len x y v) (hn : Nat.add pc len = nx) (k : q_R Γ K n i P (nx, lo, (5, v) :: st, hp, [], cl, sl)) : q_R Γ K n i P (pc, lo, st, hp, [], cl, sl) := by
  subst hn
  exact q_R.sB he rfl k
theorem r_anull (he : q_cat i pc (.aconst_null) len x y v) (hn : Nat.add pc len = nx) (k : q_R Γ K n i P (nx, lo, (3, 0) :: st, hp, [], cl, sl)) : q_R Γ K n i P (pc, lo, st, hp, [], cl, sl) := by
  subst hn
  exact q_R.sB he rfl k
theorem r_aloadN {kk : Fin 4} {z : Int} (he : q_cat i pc (.aload_n kk) len x y v) (hl : q_lk x lo = some (10, z)) (hn : Nat.add pc len = nx) (k : q_R Γ K n i P (nx, lo, (10, z) :: st, hp, [], cl, sl)) : q_R Γ K n i P (pc, lo, st, hp, [], cl, sl) := by
  subst hn
  exact q_R.sB he (by
    show q_oLoad q_isN x _ lo st hp [] cl sl = _
    unfold q_oLoad
    rw [hl]; rfl) k
theorem r_astore10_n {kk : Fin 4} {z : Int} (he : q_cat i pc (.astore_n kk) len x y v) (hs : q_sto x false (10, z) lo = lo') (hlen : Nat.ble (q_len lo') 32 = true) (hn : Nat.add pc len = nx) (k : q_R Γ K n i P (nx, lo', st, hp, [], cl, sl)) : q_R Γ K n i P (pc, lo, (10, z) :: st, hp, [], cl, sl) := by
  subst hn
  exact q_R.sB he (by
    show q_oStore q_isN false x _ lo (_ :: st) hp [] cl sl = _
    unfold q_oStore
    show q_if _ (q_if _ (q_nx _ (q_sto x false (10, z) lo) st hp [] cl sl)) = _
    rw [hs, hlen]; rfl) k
theorem r_astore10 {kk : Nat} {z : Int} (he : q_cat i pc (.astore kk) len x y v) (hs : q_sto x false (10, z) lo = lo') (hlen : Nat.ble (q_len lo') 32 = true) (hn : Nat.add pc len = nx) (k : q_R Γ K n i P (nx, lo', st, hp, [], cl, sl)) : q_R Γ K n i P (pc, lo, (10, z) :: st, hp, [], cl, sl) := by
  subst hn
  exact q_R.sB he (by
    show q_oStore q_isN false x _ lo (_ :: st) hp [] cl sl = _
    unfold q_oStore
    show q_if _ (q_if _ (q_nx _ (q_sto x false (10, z) lo) st hp [] cl sl)) = _
    rw [hs, hlen]; rfl) k
theorem r_aload3_n {kk : Fin 4} {z : Int} (he : q_cat i pc (.aload_n kk) len x y v) (hl : q_lk x lo = some (3, z)) (hn : Nat.add pc len = nx) (k : q_R Γ K n i P (nx, lo, (3, z) :: st, hp, [], cl, sl)) : q_R Γ K n i P (pc, lo, st, hp, [], cl, sl) := by
  subst hn
  exact q_R.sB he (by
    show q_oLoad q_isN x _ lo st hp [] cl sl = _
    unfold q_oLoad
    rw [hl]; rfl) k
theorem r_astore3_n {kk : Fin 4} {z : Int} (he : q_cat i pc (.astore_n kk) len x y v) (hs : q_sto x false (3, z) lo = lo') (hlen : Nat.ble (q_len lo') 32 = true) (hn : Nat.add pc len = nx) (k : q_R Γ K n i P (nx, lo', st, hp, [], cl, sl)) : q_R Γ K n i P (pc, lo, (3, z) :: st, hp, [], cl, sl) := by
  subst hn
  exact q_R.sB he (by
    show q_oStore q_isN false x _ lo (_ :: st) hp [] cl sl = _
    unfold q_oStore
    show q_if _ (q_if _ (q_nx _ (q_sto x false (3, z) lo) st hp [] cl sl)) = _
    rw [hs, hlen]; rfl) k
theorem r_astore3 {kk : Nat} {z : Int} (he : q_cat i pc (.astore kk) len x y v) (hs : q_sto x false (3, z) lo = lo') (hlen : Nat.ble (q_len lo') 32 = true) (hn : Nat.add pc len = nx) (k : q_R Γ K n i P (nx, lo', st, hp, [], cl, sl)) : q_R Γ K n i P (pc, lo, (3, z) :: st, hp, [], cl, sl) := by
  subst hn
  exact q_R.sB he (by
    show q_oStore q_isN false x _ lo (_ :: st) hp [] cl sl = _
    unfold q_oStore
    show q_if _ (q_if _ (q_nx _ (q_sto x false (3, z) lo) st hp [] cl sl)) = _
    rw [hs, hlen]; rfl) k
theorem r_aload9w {kk : Nat} {z : Int} (he : q_cat i pc (.aload kk) len x y v) (hl : q_lk x lo = some (9, z)) (hn : Nat.add pc len = nx) (k : q_R Γ K n i P (nx, lo, (9, z) :: st, hp, [], cl, sl)) : q_R Γ K n i P (pc, lo, st, hp, [], cl, sl) := by
  subst hn
  exact q_R.sB he (by
    show q_oLoad q_isN x _ lo st hp [] cl sl = _
    unfold q_oLoad
    rw [hl]; rfl) k
theorem r_gstat {nn : Nat} (he : q_cat i pc (.getstatic nn) len x y v) (hn : Nat.add pc len = nx) (k : q_R Γ K n i P (nx, lo, (9, v) :: st, hp, [], cl, sl)) : q_R Γ K n i P (pc, lo, st, hp, [], cl, sl) := by
  subst hn
  exact q_R.sB he rfl k
theorem r_ldcs {nn : Nat} (he : q_cat i pc (.ldc nn) len x y v) (hy : y = 1) (hn : Nat.add pc len = nx) (k : q_R Γ K n i P (nx, lo, (9, v) :: st, hp, [], cl, sl)) : q_R Γ K n i P (pc, lo, st, hp, [], cl, sl) := by
  subst hn
  exact q_R.sB he (by subst hy; rfl) k
theorem r_ldcsw {nn : Nat} (he : q_cat i pc (.ldc_w nn) len x y v) (hy : y = 1) (hn : Nat.add pc len = nx) (k : q_R Γ K n i P (nx, lo, (9, v) :: st, hp, [], cl, sl)) : q_R Γ K n i P (pc, lo, st, hp, [], cl, sl) := by
  subst hn
  exact q_R.sB he (by subst hy; rfl) k
theorem r_pop2 {q : q_V} (he : q_cat i pc (.pop2) len x y v) (h2 : q_is2 q.1 = true) (hn : Nat.add pc len = nx) (k : q_R Γ K n i P (nx, lo, st, hp, [], cl, sl)) : q_R Γ K n i P (pc, lo, q :: st, hp, [], cl, sl) := by
  subst hn
  exact q_R.sB he (by
    show (bif q_is2 q.1 then q_nx _ lo st hp [] cl sl else none) = _
    rw [h2]; rfl) k
theorem r_ldc2d {nn : Nat} (he : q_cat i pc (.ldc2_w nn) len x y v) (hy : y = 1) (hn : Nat.add pc len = nx) (k : q_R Γ K n i P (nx, lo, (5, v) :: st, hp, [], cl, sl)) : q_R Γ K n i P (pc, lo, st, hp, [], cl, sl) := by
  subst hn
  exact q_R.sB he (by subst hy; rfl) k
theorem r_lcmp {a b : Int} (he : q_cat i pc .lcmp len x y v) (hn : Nat.add pc len = nx)
    (kl : q_w64 a < q_w64 b → q_R Γ K n i P (nx, lo, (0, -1) :: st, hp, [], cl, sl)) (ke : q_w64 a = q_w64 b → q_R Γ K n i P (nx, lo, (0, 0) :: st, hp, [], cl, sl)) (kg : q_w64 b < q_w64 a → q_R Γ K n i P (nx, lo, (0, 1) :: st, hp, [], cl, sl)) : q_R Γ K n i P (pc, lo, (1, b) :: (1, a) :: st, hp, [], cl, sl) := by
  subst hn
  have hs : ∀ r, q_cmp (q_w64 a) (q_w64 b) = r → q_stB q_mt q_df q_cf0 Γ.2.2.2.1 (q_mt i) pc lo ((1, b) :: (1, a) :: st) hp [] cl sl .lcmp len x y v = some ([(Nat.add pc len, lo, (0, Int.sub (Int.ofNat r) 1) :: st, hp, [], cl, sl)], []) := fun r hr => by rw [← hr]; rfl
  rcases q_cmp_s (q_w64 a) (q_w64 b) with ⟨e, h1⟩ | ⟨e, h1⟩ | ⟨e, h1⟩
  · exact q_R.sB he (hs _ e) (kl h1)
  · exact q_R.sB he (hs _ e) (ke h1)
  · exact q_R.sB he (hs _ e) (kg h1)
/-- both ways of a comparison -/
theorem q_c3_i {c : ClassFile.Cond} {a b : Int} {T : Prop} (h0 : a < b → q_tk c 0 = true → T) (h0' : a < b → q_tk c 0 = false → T) (h1 : a = b → q_tk c 1 = true → T) (h1' : a = b → q_tk c 1 = false → T) (h2 : b < a → q_tk c 2 = true → T) (h2' : b < a → q_tk c 2 = false → T) : T := by
  rcases q_cmp_s a b with ⟨-, h⟩ | ⟨-, h⟩ | ⟨-, h⟩
  · cases hc : q_tk c 0
    · exact h0' h hc
    · exact h0 h hc
  · cases hc : q_tk c 1
    · exact h1' h hc
    · exact h1 h hc
  · cases hc : q_tk c 2
    · exact h2' h hc
    · exact h2 h hc
def q_ci (c : ClassFile.Cond) (a b : Int) : Prop := match c with
  | .eq => a = b
  | .ne => a ≠ b
  | .lt => a < b
  | .ge => b ≤ a
  | .gt => b < a
  | .le => a ≤ b
theorem q_tk_c {c : ClassFile.Cond} {a b : Int} {r : Nat} (hr : q_cmp a b = r) : (q_tk c r = true ∧ q_ci c a b) ∨ (q_tk c r = false ∧ ¬ q_ci c a b) := by
  subst hr
  rcases q_cmp_s a b with ⟨e, h⟩ | ⟨e, h⟩ | ⟨e, h⟩ <;> rw [e] <;> cases c <;> first | exact Or.inl ⟨rfl, by unfold q_ci; dsimp only; omega⟩ | exact Or.inr ⟨rfl, by unfold q_ci; dsimp only; omega⟩
theorem r_if {c : ClassFile.Cond} {off : Int} {a : Int} (he : q_cat i pc (.ifCond c off) len x y v) (hn : Nat.add pc len = nx) (kt : q_ci c (q_w32 a) 0 → q_R Γ K n i P (x, lo, st, hp, [], cl, sl)) (kf : ¬ q_ci c (q_w32 a) 0 → q_R Γ K n i P (nx, lo, st, hp, [], cl, sl)) : q_R Γ K n i P (pc, lo, (0, a) :: st, hp, [], cl, sl) := by
  subst hn
  have hs : q_stB q_mt q_df q_cf0 Γ.2.2.2.1 (q_mt i) pc lo ((0, a) :: st) hp [] cl sl (.ifCond c off) len x y v = some ([(bif q_tk c (q_cmp (q_w32 a) 0) then x else Nat.add pc len, lo, st, hp, [], cl, sl)], []) := rfl
  rcases q_tk_c (c := c) (a := q_w32 a) (b := 0) rfl with ⟨e, h⟩ | ⟨e, h⟩ <;> rw [e] at hs
  · exact q_R.sB he hs (kt h)
  · exact q_R.sB he hs (kf h)
theorem r_ic {c : ClassFile.Cond} {off : Int} {a b : Int} (he : q_cat i pc (.if_icmp c off) len x y v) (hn : Nat.add pc len = nx) (kt : q_ci c (q_w32 a) (q_w32 b) → q_R Γ K n i P (x, lo, st, hp, [], cl, sl)) (kf : ¬ q_ci c (q_w32 a) (q_w32 b) → q_R Γ K n i P (nx, lo, st, hp, [], cl, sl)) : q_R Γ K n i P (pc, lo, (0, b) :: (0, a) :: st, hp, [], cl, sl) := by
  subst hn
  have hs : q_stB q_mt q_df q_cf0 Γ.2.2.2.1 (q_mt i) pc lo ((0, b) :: (0, a) :: st) hp [] cl sl (.if_icmp c off) len x y v = some ([(bif q_tk c (q_cmp (q_w32 a) (q_w32 b)) then x else Nat.add pc len, lo, st, hp, [], cl, sl)], []) := rfl
  rcases q_tk_c (c := c) (a := q_w32 a) (b := q_w32 b) rfl with ⟨e, h⟩ | ⟨e, h⟩ <;> rw [e] at hs
  · exact q_R.sB he hs (kt h)
  · exact q_R.sB he hs (kf h)
theorem r_goto {off : Int} (he : q_cat i pc (.goto off) len x y v) (k : q_R Γ K n i P (x, lo, st, hp, [], cl, sl)) : q_R Γ K n i P (pc, lo, st, hp, [], cl, sl) := q_R.sB he rfl k
theorem r_ifnn {off : Int} {z : Int} (he : q_cat i pc (.ifnull off) len x y v) (hn : Nat.add pc len = nx) (k : q_R Γ K n i P (nx, lo, st, hp, [], cl, sl)) : q_R Γ K n i P (pc, lo, (2, z) :: st, hp, [], cl, sl) := by
  subst hn
  exact q_R.sB he rfl k
theorem r_iinc {kk : Nat} {nn z r : Int} (he : q_cat i pc (.iinc kk nn) len x y v) (hl : q_lk x lo = some (0, z)) (hr : q_w32 (z + nn) = r) (hs : q_sto x false (0, r) lo = lo') (hlen : Nat.ble (q_len lo') 32 = true) (hn : Nat.add pc len = nx) (k : q_R Γ K n i P (nx, lo', st, hp, [], cl, sl)) : q_R Γ K n i P (pc, lo, st, hp, [], cl, sl) := by
  subst hn; subst hr
  refine q_R.sB he ?_ k
  show q_oInc x nn (Nat.add pc len) lo st hp [] cl sl = _
  unfold q_oInc
  rw [hl]
  show q_if (Nat.ble (q_len (q_sto x false (0, q_w32 (z + nn)) lo)) 32) (q_nx (Nat.add pc len) (q_sto x false (0, q_w32 (z + nn)) lo) st hp [] cl sl) = _
  rw [hs, hlen]; rfl
variable {h : q_F}
theorem q_conc_nil (a : q_V) : q_conc [] a = a := by
  unfold q_conc
  cases Nat.ble 6 a.1
  · rfl
  · cases Nat.ble a.1 7
    · rfl
    · rfl
theorem r_get {idx kk : Nat} {ds : List q_Ds} {d : q_Ds} (he : q_cat i pc (.getfield idx) len x y v) (hk : kk < n) (hN : n ≤ 256) (hK : K kk = (0, x, ds)) (hd : ds[y]? = some d) (ht : Nat.ble 6 d.1 = false) (hn : Nat.add pc len = nx) (k : q_R Γ K n i P (nx, lo, q_fv1 d (h kk y) :: st, q_hp K n h, [], cl, sl)) : q_R Γ K n i P (pc, lo, (2, Int.ofNat kk) :: st, q_hp K n h, [], cl, sl) := by
  subst hn
  refine q_R.sB he ?_ k
  show q_oGet x y (Nat.add pc len) lo ((2, Int.ofNat kk) :: st) (q_hp K n h) [] cl sl = _
  unfold q_oGet
  show (q_at (q_hp K n h) (2, Int.ofNat kk)).bind _ = _
  rw [q_hp_at hk hN, hK]
  show q_if (bif Nat.beq 0 0 then Nat.beq x x else false) ((q_nth (q_fvs (h kk) ds 0) y).bind _) = _
  rw [Nat.beq_refl x, q_nth_g, q_fvs_g (h kk) ds 0 y d hd, Nat.zero_add]
  show some ([(Nat.add pc len, lo, q_conc [] (q_fv1 d (h kk y)) :: st, q_hp K n h, [], cl, sl)], []) = _
  rw [q_conc_nil]
theorem r_put {idx kk : Nat} {ds : List q_Ds} {d : q_Ds} {w : Int} (he : q_cat i pc (.putfield idx) len x y v) (hk : kk < n) (hN : n ≤ 256) (hK : K kk = (0, x, ds)) (hd : ds[y]? = some d) (hd2 : Nat.beq d.1 2 = false) (hf : q_fit v.toNat (d.1, w) = true) (hn : Nat.add pc len = nx) (k : q_R Γ K n i P (nx, lo, st, q_hp K n (q_ud h kk y w), [], cl, sl)) : q_R Γ K n i P (pc, lo, (d.1, w) :: (2, Int.ofNat kk) :: st, q_hp K n h, [], cl, sl) := by
  subst hn
  refine q_R.sB he ?_ k
  show q_oPut x y v.toNat (Nat.add pc len) lo ((d.1, w) :: (2, Int.ofNat kk) :: st) (q_hp K n h) [] cl sl = _
  unfold q_oPut
  show (q_at (q_hp K n h) (2, Int.ofNat kk)).bind _ = _
  rw [q_hp_at hk hN, hK]
  have hy : y < ds.length := (List.getElem?_eq_some_iff.mp hd).1
  show q_if (bif Nat.beq 0 0 then (bif Nat.beq x x then (bif q_fit v.toNat (d.1, w) then Nat.ble (Nat.succ y) (q_len (q_fvs (h kk) ds 0)) else false) else false) else false) (q_nx (Nat.add pc len) lo st (q_put (q_hp K n h) kk (0, x, q_up (q_fvs (h kk) ds 0) y (d.1, w), q_zT)) [] cl sl) = _
  rw [Nat.beq_refl x, hf, q_len_g, q_fvs_l, Nat.ble_eq_true_of_le (show Nat.succ y ≤ ds.length from hy), q_up_g, q_fvs_s (h kk) ds 0 y d w hd hd2, q_hp_put (h := h) (j := y) (v := w) hk hN]
  · rfl
  · rw [hK, Nat.zero_add]; rfl
/-- the place of an index -/
theorem q_ix2 {z : Int} {N : Nat} (h0 : 0 ≤ z) (h1 : z < N) : (bif q_ile 0 z then Nat.ble (Nat.succ z.toNat) N else false) = true := by
  rw [q_ile_t h0]
  exact Nat.ble_eq_true_of_le (by omega)
theorem q_oAld_h {k9 kk N sL : Nat} {ds : List q_Ds} {j : Int} (hk : kk < n) (hN : n ≤ 256) (hK : K kk = (k9, N, ds)) (hk9 : k9 = 1 ∨ k9 = 2 ∨ k9 = 3 ∨ k9 = 4) (hj0 : 0 ≤ q_w32 j) (hj1 : q_w32 j < N) (hN2 : N ≤ 2048) :
    q_oAld k9 sL nx lo ((0, j) :: (2, Int.ofNat kk) :: st) (q_hp K n h) [] cl sl = some ([(nx, lo, (q_ek k9, h kk (q_w32 j).toNat) :: st, q_hp K n h, [], cl, sl)], []) := by
  unfold q_oAld
  show (q_at (q_hp K n h) (2, Int.ofNat kk)).bind _ = _
  rw [q_hp_at hk hN, hK]
  have hc : q_cel (k9, N, ds) (h kk) = (k9, N, [], q_bld 11 (fun j => (q_ek k9, h kk j))) := by
    rcases hk9 with rfl | rfl | rfl | rfl <;> rfl
  rw [hc]
  show q_if (Nat.beq k9 k9) ((q_enum [] (0, j)).bind _) = _
  rw [Nat.beq_refl]
  show (q_all _ [(q_w32 j, [])]).bind _ = _
  have hq : (q_if (bif q_ile 0 (q_w32 j) then Nat.ble (Nat.succ (q_w32 j).toNat) N else false) (some ((nx, lo, q_conc [] (q_get 11 (q_bld 11 (fun j => (q_ek k9, h kk j))) (q_w32 j).toNat) :: st, q_hp K n h, ([] : q_I), cl, sl) : q_C))) = some ((nx, lo, (q_ek k9, h kk (q_w32 j).toNat) :: st, q_hp K n h, [], cl, sl) : q_C) := by
    rw [q_ix2 hj0 hj1, q_gb 11 _ _ (by omega)]
    rcases hk9 with rfl | rfl | rfl | rfl <;> rfl
  show ((q_if (bif q_ile 0 (q_w32 j) then Nat.ble (Nat.succ (q_w32 j).toNat) N else false) (some ((nx, lo, q_conc [] (q_get 11 (q_bld 11 (fun j => (q_ek k9, h kk j))) (q_w32 j).toNat) :: st, q_hp K n h, ([] : q_I), cl, sl) : q_C))).bind fun b => (some []).bind fun bs => some (b :: bs)).bind _ = _
  rw [hq]; rfl
theorem q_oAst_h {k9 kk N : Nat} {ds : List q_Ds} {j w : Int} (hk : kk < n) (hN : n ≤ 256) (hK : K kk = (k9, N, ds)) (hk9 : k9 = 1 ∨ k9 = 3 ∨ k9 = 4) (hj0 : 0 ≤ q_w32 j) (hj1 : q_w32 j < N) (hN2 : N ≤ 2048) :
    q_oAst k9 nx lo ((q_ek k9, w) :: (0, j) :: (2, Int.ofNat kk) :: st) (q_hp K n h) [] cl sl = some ([(nx, lo, st, q_hp K n (q_ud h kk (q_w32 j).toNat w), [], cl, sl)], []) := by
  unfold q_oAst
  have hkp : q_kp k9 (q_ek k9, w) = some (q_ek k9, w) := by rcases hk9 with rfl | rfl | rfl <;> rfl
  show (q_kp k9 (q_ek k9, w)).bind _ = _
  rw [hkp]
  show (q_at (q_hp K n h) (2, Int.ofNat kk)).bind _ = _
  rw [q_hp_at hk hN, hK]
  have hc : ∀ f, q_cel (k9, N, ds) f = (k9, N, [], q_bld 11 (fun j => (q_ek k9, f j))) := by
    intro f
    rcases hk9 with rfl | rfl | rfl <;> rfl
  rw [hc]
  show q_if (Nat.beq k9 k9) ((q_enum [] (0, j)).bind _) = _
  rw [Nat.beq_refl]
  have hq : (q_if (bif q_ile 0 (q_w32 j) then Nat.ble (Nat.succ (q_w32 j).toNat) N else false) (some ((nx, lo, st, q_put (q_hp K n h) kk (k9, N, [], q_set 11 (q_bld 11 (fun j => (q_ek k9, h kk j))) (q_w32 j).toNat (q_ek k9, w)), ([] : q_I), cl, sl) : q_C))) = some ((nx, lo, st, q_hp K n (q_ud h kk (q_w32 j).toNat w), [], cl, sl) : q_C) := by
    rw [q_ix2 hj0 hj1, q_sbt 11 _ _ _ (by omega), q_hp_put (h := h) (j := (q_w32 j).toNat) (v := w) hk hN]
    · rfl
    · rw [hK, hc]
      congr 4; funext j'
      split <;> rfl
  show ((q_if (bif q_ile 0 (q_w32 j) then Nat.ble (Nat.succ (q_w32 j).toNat) N else false) (some ((nx, lo, st, q_put (q_hp K n h) kk (k9, N, [], q_set 11 (q_bld 11 (fun j => (q_ek k9, h kk j))) (q_w32 j).toNat (q_ek k9, w)), ([] : q_I), cl, sl) : q_C))).bind fun b => (some []).bind fun bs => some (b :: bs)).bind _ = _
  rw [hq]; rfl
theorem r_iald {kk N : Nat} {ds : List q_Ds} {j j' : Int} (he : q_cat i pc .iaload len x y v) (hk : kk < n) (hN : n ≤ 256) (hK : K kk = (1, N, ds)) (hN2 : N ≤ 2048) (hj : q_w32 j = j') (hj0 : 0 ≤ j') (hj1 : j' < N) (hn : Nat.add pc len = nx) (k : q_R Γ K n i P (nx, lo, (0, h kk j'.toNat) :: st, q_hp K n h, [], cl, sl)) : q_R Γ K n i P (pc, lo, (0, j) :: (2, Int.ofNat kk) :: st, q_hp K n h, [], cl, sl) := by
  subst hn; subst hj
  exact q_R.sB he (q_oAld_h hk hN hK (Or.inl rfl) hj0 hj1 hN2) k
theorem r_lald {kk N : Nat} {ds : List q_Ds} {j j' : Int} (he : q_cat i pc .laload len x y v) (hk : kk < n) (hN : n ≤ 256) (hK : K kk = (3, N, ds)) (hN2 : N ≤ 2048) (hj : q_w32 j = j') (hj0 : 0 ≤ j') (hj1 : j' < N) (hn : Nat.add pc len = nx) (k : q_R Γ K n i P (nx, lo, (1, h kk j'.toNat) :: st, q_hp K n h, [], cl, sl)) : q_R Γ K n i P (pc, lo, (0, j) :: (2, Int.ofNat kk) :: st, q_hp K n h, [], cl, sl) := by
  subst hn; subst hj
  exact q_R.sB he (q_oAld_h hk hN hK (Or.inr (Or.inr (Or.inl rfl))) hj0 hj1 hN2) k
theorem r_iast {kk N : Nat} {ds : List q_Ds} {j j' w : Int} (he : q_cat i pc .iastore len x y v) (hk : kk < n) (hN : n ≤ 256) (hK : K kk = (1, N, ds)) (hN2 : N ≤ 2048) (hj : q_w32 j = j') (hj0 : 0 ≤ j') (hj1 : j' < N) (hn : Nat.add pc len = nx) (k : q_R Γ K n i P (nx, lo, st, q_hp K n (q_ud h kk j'.toNat w), [], cl, sl)) : q_R Γ K n i P (pc, lo, (0, w) :: (0, j) :: (2, Int.ofNat kk) :: st, q_hp K n h, [], cl, sl) := by
  subst hn; subst hj
  exact q_R.sB he (q_oAst_h hk hN hK (Or.inl rfl) hj0 hj1 hN2) k
theorem r_last {kk N : Nat} {ds : List q_Ds} {j j' w : Int} (he : q_cat i pc .lastore len x y v) (hk : kk < n) (hN : n ≤ 256) (hK : K kk = (3, N, ds)) (hN2 : N ≤ 2048) (hj : q_w32 j = j') (hj0 : 0 ≤ j') (hj1 : j' < N) (hn : Nat.add pc len = nx) (k : q_R Γ K n i P (nx, lo, st, q_hp K n (q_ud h kk j'.toNat w), [], cl, sl)) : q_R Γ K n i P (pc, lo, (1, w) :: (0, j) :: (2, Int.ofNat kk) :: st, q_hp K n h, [], cl, sl) := by
  subst hn; subst hj
  exact q_R.sB he (q_oAst_h hk hN hK (Or.inr (Or.inl rfl)) hj0 hj1 hN2) k
theorem r_alen {kk N k9 : Nat} {ds : List q_Ds} (he : q_cat i pc .arraylength len x y v) (hk : kk < n) (hN : n ≤ 256) (hK : K kk = (k9, N, ds)) (hk9 : k9 = 1 ∨ k9 = 2 ∨ k9 = 3 ∨ k9 = 4 ∨ k9 = 5) (hn : Nat.add pc len = nx) (k : q_R Γ K n i P (nx, lo, (0, (N : Int)) :: st, q_hp K n h, [], cl, sl)) : q_R Γ K n i P (pc, lo, (2, Int.ofNat kk) :: st, q_hp K n h, [], cl, sl) := by
  subst hn
  refine q_R.sB he ?_ k
  show q_oLen _ (Nat.add pc len) lo ((2, Int.ofNat kk) :: st) (q_hp K n h) [] cl sl = _
  unfold q_oLen
  show (q_at (q_hp K n h) (2, Int.ofNat kk)).bind _ = _
  rw [q_hp_at hk hN, hK]
  rcases hk9 with rfl | rfl | rfl | rfl | rfl <;> rfl
-- the ends
theorem q_R.end {c : q_C} {t : Nat} {w : q_V} (hs : q_step q_mt q_df q_cf0 Γ.2.2.2.1 (q_mt i) c = some ([], [(t, w, q_hp K n h, [])])) (hP : P t w h) : q_R Γ K n i P c :=
  ⟨t, w, h, hP, q_To.st (q_cf0_c Γ) hs (fun c hc => by cases hc) (fun lf hl => hl)⟩
/-- kind of answer, cells and slots of a method -/
def q_mk3 (i r : Nat) (cl sl : Nat) : Prop := (q_mt i).2.1.2.2.2 = r ∧ Nat.ble cl (q_mt i).2.2.1.2.2.1 = true ∧ Nat.ble sl (q_mt i).2.2.1.2.2.2 = true
theorem r_iret {a : Int} (he : q_cat i pc .ireturn len x y v) (hm : q_mk3 i 1 cl sl) (hP : P 1 (0, a) h) : q_R Γ K n i P (pc, lo, [(0, a)], q_hp K n h, [], cl, sl) := by
  refine q_R.end ((q_stp_c he _ _ _ _ _ _ _ _).trans ?_) hP
  show (bif Nat.beq (q_mt i).2.1.2.2.2 1 then q_ret 1 q_isI false (q_mt i) [(0, a)] (q_hp K n h) [] cl sl else _) = _
  rw [hm.1]
  show q_if (bif Nat.beq (q_mt i).2.1.2.2.2 1 then (bif q_isI 0 then (bif Nat.ble cl (q_mt i).2.2.1.2.2.1 then (bif Nat.ble sl (q_mt i).2.2.1.2.2.2 then _ else false) else false) else false) else false) _ = _
  rw [hm.1, hm.2.1, hm.2.2]; rfl
theorem r_zret {a : Int} (he : q_cat i pc .ireturn len x y v) (hm : q_mk3 i 2 cl sl) (h01 : a = 0 ∨ a = 1) (hP : P 1 (0, a) h) : q_R Γ K n i P (pc, lo, [(0, a)], q_hp K n h, [], cl, sl) := by
  refine q_R.end ((q_stp_c he _ _ _ _ _ _ _ _).trans ?_) hP
  show (bif Nat.beq (q_mt i).2.1.2.2.2 1 then _ else q_ret 2 (Nat.beq 0) true (q_mt i) [(0, a)] (q_hp K n h) [] cl sl) = _
  rw [hm.1]
  show q_if (bif Nat.beq (q_mt i).2.1.2.2.2 2 then (bif Nat.beq 0 0 then (bif Nat.ble cl (q_mt i).2.2.1.2.2.1 then (bif Nat.ble sl (q_mt i).2.2.1.2.2.2 then (bif true then (bif q_ieq a 0 then true else q_ieq a 1) else false) else false) else false) else false) else false) _ = _
  rw [hm.1, hm.2.1, hm.2.2]
  rcases h01 with rfl | rfl <;> rfl
theorem r_lret {a : Int} (he : q_cat i pc .lreturn len x y v) (hm : q_mk3 i 3 cl sl) (hP : P 1 (1, a) h) : q_R Γ K n i P (pc, lo, [(1, a)], q_hp K n h, [], cl, sl) := by
  refine q_R.end ((q_stp_c he _ _ _ _ _ _ _ _).trans ?_) hP
  show q_if (bif Nat.beq (q_mt i).2.1.2.2.2 3 then (bif q_isJ 1 then (bif Nat.ble cl (q_mt i).2.2.1.2.2.1 then (bif Nat.ble sl (q_mt i).2.2.1.2.2.2 then _ else false) else false) else false) else false) _ = _
  rw [hm.1, hm.2.1, hm.2.2]; rfl
theorem r_aret {a : Int} (he : q_cat i pc .areturn len x y v) (hm : q_mk3 i 6 cl sl) (hP : P 1 (2, a) h) : q_R Γ K n i P (pc, lo, [(2, a)], q_hp K n h, [], cl, sl) := by
  refine q_R.end ((q_stp_c he _ _ _ _ _ _ _ _).trans ?_) hP
  show q_if (bif Nat.beq (q_mt i).2.1.2.2.2 6 then (bif (bif Nat.beq 2 2 then true else Nat.beq 2 3) then (bif Nat.ble cl (q_mt i).2.2.1.2.2.1 then (bif Nat.ble sl (q_mt i).2.2.1.2.2.2 then _ else false) else false) else false) else false) _ = _
  rw [hm.1, hm.2.1, hm.2.2]; rfl
theorem r_vret (he : q_cat i pc .return_ len x y v) (hm : q_mk3 i 0 cl sl) (hP : P 0 q_z0 h) : q_R Γ K n i P (pc, lo, [], q_hp K n h, [], cl, sl) := by
  refine q_R.end ((q_stp_c he _ _ _ _ _ _ _ _).trans ?_) hP
  show q_if (bif Nat.beq (q_mt i).2.1.2.2.2 0 then (bif Nat.ble cl (q_mt i).2.2.1.2.2.1 then (bif Nat.ble sl (q_mt i).2.2.1.2.2.2 then true else false) else false) else false) _ = _
  rw [hm.1, hm.2.1, hm.2.2]; rfl
noncomputable def q_thm (mi : q_MI) (st : List q_V) (cl sl : Nat) : Bool := bif Nat.ble 6 mi.2.2.1.1 then (bif Nat.ble (Nat.add (q_wid st) 82) mi.2.2.1.2.1 then (bif Nat.ble (Nat.succ cl) mi.2.2.1.2.2.1 then (bif Nat.ble (Nat.add sl 6) mi.2.2.1.2.2.2 then (match mi.2.2.2 with
    | [] => true
    | _ :: _ => false) else false) else false) else false) else false
theorem r_thr {idx : Nat} {E : Nat} (he : q_cat i pc (.new idx) len E (Nat.succ y) v) (hm : q_thm (q_mt i) st cl sl = true) (hP : P (Nat.add E 2) q_z0 h) : q_R Γ K n i P (pc, lo, st, q_hp K n h, [], cl, sl) := by
  refine q_R.end ((q_stp_c he _ _ _ _ _ _ _ _).trans ?_) hP
  show q_if (q_thm (q_mt i) st cl sl) (some ([], [(Nat.add E 2, q_z0, q_hp K n h, [])])) = _
  rw [hm]; rfl
-- calls
/-- what a call asks of the rooms of both methods -/
noncomputable def q_rms (i x cl sl : Nat) (rest : List q_V) : Bool := bif Nat.ble (q_wid rest) 8 then (bif Nat.ble (Nat.succ (q_mt x).2.2.1.1) (q_mt i).2.2.1.1 then (bif Nat.ble (Nat.add (Nat.add (q_mt x).2.1.1 19) (q_mt x).2.2.1.2.1) (q_mt i).2.2.1.2.1 then (bif Nat.ble (Nat.add cl (q_mt x).2.2.1.2.2.1) (q_mt i).2.2.1.2.2.1 then Nat.ble (Nat.add sl (q_mt x).2.2.1.2.2.2) (q_mt i).2.2.1.2.2.2 else false) else false) else false) else false

theorem q_rg1 (z : Int) : -2147483648 ≤ q_w32 z := (q_w32_s z).1
theorem q_rg2 (z : Int) : q_w32 z < 2147483648 := (q_w32_s z).2.1
theorem q_rg3 (z : Int) : -9223372036854775808 ≤ q_w64 z := (q_w64_s z).1
theorem q_rg4 (z : Int) : q_w64 z < 9223372036854775808 := (q_w64_s z).2.1
theorem q_w32w (z : Int) : q_w32 (q_w32 z) = q_w32 z := q_w32_id (q_rg1 z) (q_rg2 z)
theorem r_if_eq {off : Int} {a a' : Int} (he : q_cat i pc (.ifCond .eq off) len x y v) (hn : Nat.add pc len = nx) (ha : q_w32 a = a') (kt : (a' = 0) ∧ -2147483648 ≤ a' ∧ a' < 2147483648 → q_R Γ K n i P (x, lo, st, hp, [], cl, sl)) (kf : (¬ a' = 0) ∧ -2147483648 ≤ a' ∧ a' < 2147483648 → q_R Γ K n i P (nx, lo, st, hp, [], cl, sl)) : q_R Γ K n i P (pc, lo, (0, a) :: st, hp, [], cl, sl) := by
  subst ha
  exact r_if he hn (fun h => kt ⟨h, q_rg1 _, q_rg2 _⟩) (fun h => kf ⟨by first | exact h | exact Decidable.not_not.mp h | (have h : ¬ _ < _ := h; omega) | (have h : ¬ _ ≤ _ := h; omega), q_rg1 _, q_rg2 _⟩)
theorem r_ic_eq {off : Int} {a a' : Int} {b b' : Int} (he : q_cat i pc (.if_icmp .eq off) len x y v) (hn : Nat.add pc len = nx) (ha : q_w32 a = a') (hb : q_w32 b = b') (kt : (a' = b') ∧ -2147483648 ≤ a' ∧ a' < 2147483648 ∧ -2147483648 ≤ b' ∧ b' < 2147483648 → q_R Γ K n i P (x, lo, st, hp, [], cl, sl)) (kf : (¬ a' = b') ∧ -2147483648 ≤ a' ∧ a' < 2147483648 ∧ -2147483648 ≤ b' ∧ b' < 2147483648 → q_R Γ K n i P (nx, lo, st, hp, [], cl, sl)) : q_R Γ K n i P (pc, lo, (0, b) :: (0, a) :: st, hp, [], cl, sl) := by
  subst ha; subst hb
  exact r_ic he hn (fun h => kt ⟨h, q_rg1 _, q_rg2 _, q_rg1 _, q_rg2 _⟩) (fun h => kf ⟨by first | exact h | exact Decidable.not_not.mp h | (have h : ¬ _ < _ := h; omega) | (have h : ¬ _ ≤ _ := h; omega), q_rg1 _, q_rg2 _, q_rg1 _, q_rg2 _⟩)
theorem r_if_ne {off : Int} {a a' : Int} (he : q_cat i pc (.ifCond .ne off) len x y v) (hn : Nat.add pc len = nx) (ha : q_w32 a = a') (kt : (¬ a' = 0) ∧ -2147483648 ≤ a' ∧ a' < 2147483648 → q_R Γ K n i P (x, lo, st, hp, [], cl, sl)) (kf : (a' = 0) ∧ -2147483648 ≤ a' ∧ a' < 2147483648 → q_R Γ K n i P (nx, lo, st, hp, [], cl, sl)) : q_R Γ K n i P (pc, lo, (0, a) :: st, hp, [], cl, sl) := by
  subst ha
  exact r_if he hn (fun h => kt ⟨h, q_rg1 _, q_rg2 _⟩) (fun h => kf ⟨by first | exact h | exact Decidable.not_not.mp h | (have h : ¬ _ < _ := h; omega) | (have h : ¬ _ ≤ _ := h; omega), q_rg1 _, q_rg2 _⟩)
theorem r_ic_ne {off : Int} {a a' : Int} {b b' : Int} (he : q_cat i pc (.if_icmp .ne off) len x y v) (hn : Nat.add pc len = nx) (ha : q_w32 a = a') (hb : q_w32 b = b') (kt : (¬ a' = b') ∧ -2147483648 ≤ a' ∧ a' < 2147483648 ∧ -2147483648 ≤ b' ∧ b' < 2147483648 → q_R Γ K n i P (x, lo, st, hp, [], cl, sl)) (kf : (a' = b') ∧ -2147483648 ≤ a' ∧ a' < 2147483648 ∧ -2147483648 ≤ b' ∧ b' < 2147483648 → q_R Γ K n i P (nx, lo, st, hp, [], cl, sl)) : q_R Γ K n i P (pc, lo, (0, b) :: (0, a) :: st, hp, [], cl, sl) := by
  subst ha; subst hb
  exact r_ic he hn (fun h => kt ⟨h, q_rg1 _, q_rg2 _, q_rg1 _, q_rg2 _⟩) (fun h => kf ⟨by first | exact h | exact Decidable.not_not.mp h | (have h : ¬ _ < _ := h; omega) | (have h : ¬ _ ≤ _ := h; omega), q_rg1 _, q_rg2 _, q_rg1 _, q_rg2 _⟩)
theorem r_if_lt {off : Int} {a a' : Int} (he : q_cat i pc (.ifCond .lt off) len x y v) (hn : Nat.add pc len = nx) (ha : q_w32 a = a') (kt : (a' < 0) ∧ -2147483648 ≤ a' ∧ a' < 2147483648 → q_R Γ K n i P (x, lo, st, hp, [], cl, sl)) (kf : (0 ≤ a') ∧ -2147483648 ≤ a' ∧ a' < 2147483648 → q_R Γ K n i P (nx, lo, st, hp, [], cl, sl)) : q_R Γ K n i P (pc, lo, (0, a) :: st, hp, [], cl, sl) := by
  subst ha
  exact r_if he hn (fun h => kt ⟨h, q_rg1 _, q_rg2 _⟩) (fun h => kf ⟨by first | exact h | exact Decidable.not_not.mp h | (have h : ¬ _ < _ := h; omega) | (have h : ¬ _ ≤ _ := h; omega), q_rg1 _, q_rg2 _⟩)
theorem r_ic_lt {off : Int} {a a' : Int} {b b' : Int} (he : q_cat i pc (.if_icmp .lt off) len x y v) (hn : Nat.add pc len = nx) (ha : q_w32 a = a') (hb : q_w32 b = b') (kt : (a' < b') ∧ -2147483648 ≤ a' ∧ a' < 2147483648 ∧ -2147483648 ≤ b' ∧ b' < 2147483648 → q_R Γ K n i P (x, lo, st, hp, [], cl, sl)) (kf : (b' ≤ a') ∧ -2147483648 ≤ a' ∧ a' < 2147483648 ∧ -2147483648 ≤ b' ∧ b' < 2147483648 → q_R Γ K n i P (nx, lo, st, hp, [], cl, sl)) : q_R Γ K n i P (pc, lo, (0, b) :: (0, a) :: st, hp, [], cl, sl) := by
  subst ha; subst hb
  exact r_ic he hn (fun h => kt ⟨h, q_rg1 _, q_rg2 _, q_rg1 _, q_rg2 _⟩) (fun h => kf ⟨by first | exact h | exact Decidable.not_not.mp h | (have h : ¬ _ < _ := h; omega) | (have h : ¬ _ ≤ _ := h; omega), q_rg1 _, q_rg2 _, q_rg1 _, q_rg2 _⟩)
theorem r_if_ge {off : Int} {a a' : Int} (he : q_cat i pc (.ifCond .ge off) len x y v) (hn : Nat.add pc len = nx) (ha : q_w32 a = a') (kt : (0 ≤ a') ∧ -2147483648 ≤ a' ∧ a' < 2147483648 → q_R Γ K n i P (x, lo, st, hp, [], cl, sl)) (kf : (a' < 0) ∧ -2147483648 ≤ a' ∧ a' < 2147483648 → q_R Γ K n i P (nx, lo, st, hp, [], cl, sl)) : q_R Γ K n i P (pc, lo, (0, a) :: st, hp, [], cl, sl) := by
  subst ha
  exact r_if he hn (fun h => kt ⟨h, q_rg1 _, q_rg2 _⟩) (fun h => kf ⟨by first | exact h | exact Decidable.not_not.mp h | (have h : ¬ _ < _ := h; omega) | (have h : ¬ _ ≤ _ := h; omega), q_rg1 _, q_rg2 _⟩)
theorem r_ic_ge {off : Int} {a a' : Int} {b b' : Int} (he : q_cat i pc (.if_icmp .ge off) len x y v) (hn : Nat.add pc len = nx) (ha : q_w32 a = a') (hb : q_w32 b = b') (kt : (b' ≤ a') ∧ -2147483648 ≤ a' ∧ a' < 2147483648 ∧ -2147483648 ≤ b' ∧ b' < 2147483648 → q_R Γ K n i P (x, lo, st, hp, [], cl, sl)) (kf : (a' < b') ∧ -2147483648 ≤ a' ∧ a' < 2147483648 ∧ -2147483648 ≤ b' ∧ b' < 2147483648 → q_R Γ K n i P (nx, lo, st, hp, [], cl, sl)) : q_R Γ K n i P (pc, lo, (0, b) :: (0, a) :: st, hp, [], cl, sl) := by
  subst ha; subst hb
  exact r_ic he hn (fun h => kt ⟨h, q_rg1 _, q_rg2 _, q_rg1 _, q_rg2 _⟩) (fun h => kf ⟨by first | exact h | exact Decidable.not_not.mp h | (have h : ¬ _ < _ := h; omega) | (have h : ¬ _ ≤ _ := h; omega), q_rg1 _, q_rg2 _, q_rg1 _, q_rg2 _⟩)
theorem r_if_gt {off : Int} {a a' : Int} (he : q_cat i pc (.ifCond .gt off) len x y v) (hn : Nat.add pc len = nx) (ha : q_w32 a = a') (kt : (0 < a') ∧ -2147483648 ≤ a' ∧ a' < 2147483648 → q_R Γ K n i P (x, lo, st, hp, [], cl, sl)) (kf : (a' ≤ 0) ∧ -2147483648 ≤ a' ∧ a' < 2147483648 → q_R Γ K n i P (nx, lo, st, hp, [], cl, sl)) : q_R Γ K n i P (pc, lo, (0, a) :: st, hp, [], cl, sl) := by
  subst ha
  exact r_if he hn (fun h => kt ⟨h, q_rg1 _, q_rg2 _⟩) (fun h => kf ⟨by first | exact h | exact Decidable.not_not.mp h | (have h : ¬ _ < _ := h; omega) | (have h : ¬ _ ≤ _ := h; omega), q_rg1 _, q_rg2 _⟩)
theorem r_ic_gt {off : Int} {a a' : Int} {b b' : Int} (he : q_cat i pc (.if_icmp .gt off) len x y v) (hn : Nat.add pc len = nx) (ha : q_w32 a = a') (hb : q_w32 b = b') (kt : (b' < a') ∧ -2147483648 ≤ a' ∧ a' < 2147483648 ∧ -2147483648 ≤ b' ∧ b' < 2147483648 → q_R Γ K n i P (x, lo, st, hp, [], cl, sl)) (kf : (a' ≤ b') ∧ -2147483648 ≤ a' ∧ a' < 2147483648 ∧ -2147483648 ≤ b' ∧ b' < 2147483648 → q_R Γ K n i P (nx, lo, st, hp, [], cl, sl)) : q_R Γ K n i P (pc, lo, (0, b) :: (0, a) :: st, hp, [], cl, sl) := by
  subst ha; subst hb
  exact r_ic he hn (fun h => kt ⟨h, q_rg1 _, q_rg2 _, q_rg1 _, q_rg2 _⟩) (fun h => kf ⟨by first | exact h | exact Decidable.not_not.mp h | (have h : ¬ _ < _ := h; omega) | (have h : ¬ _ ≤ _ := h; omega), q_rg1 _, q_rg2 _, q_rg1 _, q_rg2 _⟩)
theorem r_if_le {off : Int} {a a' : Int} (he : q_cat i pc (.ifCond .le off) len x y v) (hn : Nat.add pc len = nx) (ha : q_w32 a = a') (kt : (a' ≤ 0) ∧ -2147483648 ≤ a' ∧ a' < 2147483648 → q_R Γ K n i P (x, lo, st, hp, [], cl, sl)) (kf : (0 < a') ∧ -2147483648 ≤ a' ∧ a' < 2147483648 → q_R Γ K n i P (nx, lo, st, hp, [], cl, sl)) : q_R Γ K n i P (pc, lo, (0, a) :: st, hp, [], cl, sl) := by
  subst ha
  exact r_if he hn (fun h => kt ⟨h, q_rg1 _, q_rg2 _⟩) (fun h => kf ⟨by first | exact h | exact Decidable.not_not.mp h | (have h : ¬ _ < _ := h; omega) | (have h : ¬ _ ≤ _ := h; omega), q_rg1 _, q_rg2 _⟩)
theorem r_ic_le {off : Int} {a a' : Int} {b b' : Int} (he : q_cat i pc (.if_icmp .le off) len x y v) (hn : Nat.add pc len = nx) (ha : q_w32 a = a') (hb : q_w32 b = b') (kt : (a' ≤ b') ∧ -2147483648 ≤ a' ∧ a' < 2147483648 ∧ -2147483648 ≤ b' ∧ b' < 2147483648 → q_R Γ K n i P (x, lo, st, hp, [], cl, sl)) (kf : (b' < a') ∧ -2147483648 ≤ a' ∧ a' < 2147483648 ∧ -2147483648 ≤ b' ∧ b' < 2147483648 → q_R Γ K n i P (nx, lo, st, hp, [], cl, sl)) : q_R Γ K n i P (pc, lo, (0, b) :: (0, a) :: st, hp, [], cl, sl) := by
  subst ha; subst hb
  exact r_ic he hn (fun h => kt ⟨h, q_rg1 _, q_rg2 _, q_rg1 _, q_rg2 _⟩) (fun h => kf ⟨by first | exact h | exact Decidable.not_not.mp h | (have h : ¬ _ < _ := h; omega) | (have h : ¬ _ ≤ _ := h; omega), q_rg1 _, q_rg2 _, q_rg1 _, q_rg2 _⟩)
theorem r_geti {idx kk : Nat} {ds : List q_Ds} {d2 : Int} (he : q_cat i pc (.getfield idx) len x y v) (hk : kk < n) (hN : n ≤ 256) (hK : K kk = (0, x, ds)) (hd : ds[y]? = some (0, d2)) (hn : Nat.add pc len = nx) (k : q_R Γ K n i P (nx, lo, (0, h kk y) :: st, q_hp K n h, [], cl, sl)) : q_R Γ K n i P (pc, lo, (2, Int.ofNat kk) :: st, q_hp K n h, [], cl, sl) := r_get he hk hN hK hd rfl hn k
theorem r_getl {idx kk : Nat} {ds : List q_Ds} {d2 : Int} (he : q_cat i pc (.getfield idx) len x y v) (hk : kk < n) (hN : n ≤ 256) (hK : K kk = (0, x, ds)) (hd : ds[y]? = some (1, d2)) (hn : Nat.add pc len = nx) (k : q_R Γ K n i P (nx, lo, (1, h kk y) :: st, q_hp K n h, [], cl, sl)) : q_R Γ K n i P (pc, lo, (2, Int.ofNat kk) :: st, q_hp K n h, [], cl, sl) := r_get he hk hN hK hd rfl hn k
theorem r_getr {idx kk : Nat} {ds : List q_Ds} {d2 : Int} (he : q_cat i pc (.getfield idx) len x y v) (hk : kk < n) (hN : n ≤ 256) (hK : K kk = (0, x, ds)) (hd : ds[y]? = some (2, d2)) (hn : Nat.add pc len = nx) (k : q_R Γ K n i P (nx, lo, (2, d2) :: st, q_hp K n h, [], cl, sl)) : q_R Γ K n i P (pc, lo, (2, Int.ofNat kk) :: st, q_hp K n h, [], cl, sl) := r_get he hk hN hK hd rfl hn k
theorem r_puti {idx kk : Nat} {ds : List q_Ds} {d2 : Int} {w : Int} (he : q_cat i pc (.putfield idx) len x y v) (hk : kk < n) (hN : n ≤ 256) (hK : K kk = (0, x, ds)) (hd : ds[y]? = some (0, d2)) (hf : q_fit v.toNat (0, w) = true) (hn : Nat.add pc len = nx) (k : q_R Γ K n i P (nx, lo, st, q_hp K n (q_ud h kk y w), [], cl, sl)) : q_R Γ K n i P (pc, lo, (0, w) :: (2, Int.ofNat kk) :: st, q_hp K n h, [], cl, sl) := r_put he hk hN hK hd rfl hf hn k
theorem r_putl {idx kk : Nat} {ds : List q_Ds} {d2 : Int} {w : Int} (he : q_cat i pc (.putfield idx) len x y v) (hk : kk < n) (hN : n ≤ 256) (hK : K kk = (0, x, ds)) (hd : ds[y]? = some (1, d2)) (hf : q_fit v.toNat (1, w) = true) (hn : Nat.add pc len = nx) (k : q_R Γ K n i P (nx, lo, st, q_hp K n (q_ud h kk y w), [], cl, sl)) : q_R Γ K n i P (pc, lo, (1, w) :: (2, Int.ofNat kk) :: st, q_hp K n h, [], cl, sl) := r_put he hk hN hK hd rfl hf hn k
theorem q_fit_b {w : Int} (h01 : w = 0 ∨ w = 1) : q_fit 1 (0, w) = true := by rcases h01 with rfl | rfl <;> rfl
theorem r_bald {kk N : Nat} {ds : List q_Ds} {j j' : Int} (he : q_cat i pc .baload len x y v) (hk : kk < n) (hN : n ≤ 256) (hK : K kk = (2, N, ds)) (hN2 : N ≤ 2048) (hj : q_w32 j = j') (hj0 : 0 ≤ j') (hj1 : j' < N) (hn : Nat.add pc len = nx) (k : q_R Γ K n i P (nx, lo, (0, h kk j'.toNat) :: st, q_hp K n h, [], cl, sl)) : q_R Γ K n i P (pc, lo, (0, j) :: (2, Int.ofNat kk) :: st, q_hp K n h, [], cl, sl) := by
  subst hn; subst hj
  exact q_R.sB he (q_oAld_h hk hN hK (Or.inr (Or.inl rfl)) hj0 hj1 hN2) k
theorem r_dald {kk N : Nat} {ds : List q_Ds} {j j' : Int} (he : q_cat i pc .daload len x y v) (hk : kk < n) (hN : n ≤ 256) (hK : K kk = (4, N, ds)) (hN2 : N ≤ 2048) (hj : q_w32 j = j') (hj0 : 0 ≤ j') (hj1 : j' < N) (hn : Nat.add pc len = nx) (k : q_R Γ K n i P (nx, lo, (5, h kk j'.toNat) :: st, q_hp K n h, [], cl, sl)) : q_R Γ K n i P (pc, lo, (0, j) :: (2, Int.ofNat kk) :: st, q_hp K n h, [], cl, sl) := by
  subst hn; subst hj
  exact q_R.sB he (q_oAld_h hk hN hK (Or.inr (Or.inr (Or.inr rfl))) hj0 hj1 hN2) k
theorem r_dast {kk N : Nat} {ds : List q_Ds} {j j' w : Int} (he : q_cat i pc .dastore len x y v) (hk : kk < n) (hN : n ≤ 256) (hK : K kk = (4, N, ds)) (hN2 : N ≤ 2048) (hj : q_w32 j = j') (hj0 : 0 ≤ j') (hj1 : j' < N) (hn : Nat.add pc len = nx) (k : q_R Γ K n i P (nx, lo, st, q_hp K n (q_ud h kk j'.toNat w), [], cl, sl)) : q_R Γ K n i P (pc, lo, (5, w) :: (0, j) :: (2, Int.ofNat kk) :: st, q_hp K n h, [], cl, sl) := by
  subst hn; subst hj
  exact q_R.sB he (q_oAst_h hk hN hK (Or.inr (Or.inr rfl)) hj0 hj1 hN2) k
theorem q_oAst_b {k9 kk N : Nat} {ds : List q_Ds} {j w : Int} (hk : kk < n) (hN : n ≤ 256) (hK : K kk = (2, N, ds)) (hk9 : k9 = 2) (hj0 : 0 ≤ q_w32 j) (hj1 : q_w32 j < N) (hN2 : N ≤ 2048) :
    q_oAst k9 nx lo ((0, w) :: (0, j) :: (2, Int.ofNat kk) :: st) (q_hp K n h) [] cl sl = some ([(nx, lo, st, q_hp K n (q_ud h kk (q_w32 j).toNat ((Int32.ofInt w).toInt8.toInt32).toInt), [], cl, sl)], []) := by
  unfold q_oAst
  have hkp : q_kp k9 ((0, w) : q_V) = some (0, ((Int32.ofInt w).toInt8.toInt32).toInt) := by rw [hk9]; rfl
  show (q_kp k9 ((0, w) : q_V)).bind _ = _
  rw [hkp]
  show (q_at (q_hp K n h) (2, Int.ofNat kk)).bind _ = _
  rw [q_hp_at hk hN, hK]
  have hc : ∀ f, q_cel (2, N, ds) f = (2, N, [], q_bld 11 (fun j => ((0, f j) : q_V))) := fun f => rfl
  rw [hc]
  show q_if (Nat.beq 2 k9) ((q_enum [] (0, j)).bind _) = _
  rw [hk9]
  have hq : (q_if (bif q_ile 0 (q_w32 j) then Nat.ble (Nat.succ (q_w32 j).toNat) N else false) (some ((nx, lo, st, q_put (q_hp K n h) kk (2, N, [], q_set 11 (q_bld 11 (fun j => ((0, h kk j) : q_V))) (q_w32 j).toNat (0, ((Int32.ofInt w).toInt8.toInt32).toInt)), ([] : q_I), cl, sl) : q_C))) = some ((nx, lo, st, q_hp K n (q_ud h kk (q_w32 j).toNat ((Int32.ofInt w).toInt8.toInt32).toInt), [], cl, sl) : q_C) := by
    rw [q_ix2 hj0 hj1, q_sbt 11 _ _ _ (by omega), q_hp_put (h := h) (j := (q_w32 j).toNat) (v := ((Int32.ofInt w).toInt8.toInt32).toInt) hk hN]
    · rfl
    · rw [hK, hc]
      congr 4; funext j'
      split <;> rfl
  show ((q_if (bif q_ile 0 (q_w32 j) then Nat.ble (Nat.succ (q_w32 j).toNat) N else false) (some ((nx, lo, st, q_put (q_hp K n h) kk (2, N, [], q_set 11 (q_bld 11 (fun j => ((0, h kk j) : q_V))) (q_w32 j).toNat (0, ((Int32.ofInt w).toInt8.toInt32).toInt)), ([] : q_I), cl, sl) : q_C))).bind fun b => (some []).bind fun bs => some (b :: bs)).bind _ = _
  rw [hq]; rfl
theorem r_bast {kk N : Nat} {ds : List q_Ds} {j j' w w' : Int} (he : q_cat i pc .bastore len x y v) (hk : kk < n) (hN : n ≤ 256) (hK : K kk = (2, N, ds)) (hN2 : N ≤ 2048) (hw : ((Int32.ofInt w).toInt8.toInt32).toInt = w') (hj : q_w32 j = j') (hj0 : 0 ≤ j') (hj1 : j' < N) (hn : Nat.add pc len = nx) (k : q_R Γ K n i P (nx, lo, st, q_hp K n (q_ud h kk j'.toNat w'), [], cl, sl)) : q_R Γ K n i P (pc, lo, (0, w) :: (0, j) :: (2, Int.ofNat kk) :: st, q_hp K n h, [], cl, sl) := by
  subst hn; subst hj; subst hw
  exact q_R.sB he (q_oAst_b hk hN hK rfl hj0 hj1 hN2) k
/-- a row of references -/
theorem r_aald {kk N r : Nat} {ds : List q_Ds} {j j' : Int} (he : q_cat i pc .aaload len x y v) (hk : kk < n) (hN : n ≤ 256) (hK : K kk = (5, N, ds)) (hN2 : N ≤ 2048) (hj : q_w32 j = j') (hj0 : 0 ≤ j') (hj1 : j' < N) (hd : ds[j'.toNat]? = some (2, Int.ofNat r)) (hn : Nat.add pc len = nx) (k : q_R Γ K n i P (nx, lo, (2, Int.ofNat r) :: st, q_hp K n h, [], cl, sl)) : q_R Γ K n i P (pc, lo, (0, j) :: (2, Int.ofNat kk) :: st, q_hp K n h, [], cl, sl) := by
  subst hn; subst hj
  refine q_R.sB he ?_ k
  show q_oAld 5 _ (Nat.add pc len) lo ((0, j) :: (2, Int.ofNat kk) :: st) (q_hp K n h) [] cl sl = _
  unfold q_oAld
  show (q_at (q_hp K n h) (2, Int.ofNat kk)).bind _ = _
  rw [q_hp_at hk hN, hK]
  have hc : q_cel (5, N, ds) (h kk) = (5, N, [], q_bld 11 (fun j => ((2, ((ds[j]?).getD (0, 0)).2) : q_V))) := rfl
  rw [hc]
  show ((q_if (bif q_ile 0 (q_w32 j) then Nat.ble (Nat.succ (q_w32 j).toNat) N else false) (some ((Nat.add pc len, lo, q_conc [] (q_get 11 (q_bld 11 (fun j => ((2, ((ds[j]?).getD (0, 0)).2) : q_V))) (q_w32 j).toNat) :: st, q_hp K n h, ([] : q_I), cl, sl) : q_C))).bind fun b => (some []).bind fun bs => some (b :: bs)).bind _ = _
  rw [q_ix2 hj0 hj1, q_gb 11 _ _ (by omega), hd]; rfl
/-- the rows besides: the script, and the class's two -/
theorem r_alen9 {z : Int} {m9 : Int} (he : q_cat i pc .arraylength len x y v) (hz : z.toNat ≤ 2) (hm : ((q_ln Γ.2.2.2.1 z.toNat : Nat) : Int) = m9) (hn : Nat.add pc len = nx) (k : q_R Γ K n i P (nx, lo, (0, m9) :: st, hp, [], cl, sl)) : q_R Γ K n i P (pc, lo, (9, z) :: st, hp, [], cl, sl) := by
  subst hn; subst hm
  refine q_R.sB he ?_ k
  show q_if (Nat.ble z.toNat 2) _ = _
  rw [Nat.ble_eq_true_of_le hz]; rfl
theorem r_iald9 {z j j' r : Int} (he : q_cat i pc .iaload len x y v) (hz : z.toNat = 1 ∨ z.toNat = 2) (hj : q_w32 j = j') (hj0 : 0 ≤ j') (hj1 : j' < 6) (hr : q_lg z.toNat j'.toNat = r) (hn : Nat.add pc len = nx) (k : q_R Γ K n i P (nx, lo, (0, r) :: st, hp, [], cl, sl)) : q_R Γ K n i P (pc, lo, (0, j) :: (9, z) :: st, hp, [], cl, sl) := by
  subst hn; subst hj; subst hr
  refine q_R.sB he ?_ k
  show q_if (bif Nat.ble z.toNat 2 then (bif Nat.beq 1 1 then (bif Nat.beq 0 0 then (bif q_ile 0 (q_w32 j) then Nat.ble (Nat.succ (q_w32 j).toNat) (q_ln Γ.2.2.2.1 z.toNat) else false) else false) else false) else false) (q_nx (Nat.add pc len) lo ((bif Nat.beq z.toNat 0 then q_conc [] (6, q_w32 j) else (0, q_lg z.toNat (q_w32 j).toNat)) :: st) hp [] cl sl) = _
  have h6 : q_ln Γ.2.2.2.1 z.toNat = 6 := by rcases hz with e | e <;> rw [e] <;> rfl
  rw [h6, q_ix2 (N := 6) hj0 hj1]
  rcases hz with e | e <;> rw [e] <;> rfl
theorem r_sald {j j' : Int} {z : Int} (he : q_cat i pc .iaload len x y v) (hz : z.toNat = 0) (hj : q_w32 j = j') (hj0 : 0 ≤ j') (hj1 : j' < Γ.2.2.2.1) (hn : Nat.add pc len = nx) (k : q_R Γ K n i P (nx, lo, (0, Γ.1 j'.toNat) :: st, hp, [], cl, sl)) : q_R Γ K n i P (pc, lo, (0, j) :: (9, z) :: st, hp, [], cl, sl) := by
  subst hn; subst hj
  obtain ⟨t, v9, h', hP, hT⟩ := k
  refine ⟨t, v9, h', hP, ?_⟩
  refine q_To.st (q_cf0_c Γ) (z := ([(Nat.add pc len, lo, (6, q_w32 j) :: st, hp, [], cl, sl)], [])) ((q_stp_c he _ _ _ _ _ _ _ _).trans ?_) (fun c'' hc => ?_) (fun lf hl => by cases hl)
  · show q_if (bif Nat.ble z.toNat 2 then (bif Nat.beq 1 1 then (bif Nat.beq 0 0 then (bif q_ile 0 (q_w32 j) then Nat.ble (Nat.succ (q_w32 j).toNat) (q_ln Γ.2.2.2.1 z.toNat) else false) else false) else false) else false) (q_nx (Nat.add pc len) lo ((bif Nat.beq z.toNat 0 then q_conc [] (6, q_w32 j) else (0, q_lg z.toNat (q_w32 j).toNat)) :: st) hp [] cl sl) = _
    rw [hz, show q_ln Γ.2.2.2.1 0 = Γ.2.2.2.1 from rfl, q_ix2 (N := Γ.2.2.2.1) hj0 hj1]
    rfl
  · cases List.mem_singleton.mp hc
    have e : q_w32 j = Int.ofNat (q_w32 j).toNat := by show q_w32 j = ((q_w32 j).toNat : Int); omega
    rw [e]
    exact hT.cv
/-- a switch -/
theorem r_tsw {d lo9 hi9 a a' : Int} {offs : Array Int} {td : Nat} (he : q_cat i pc (.tableswitch d lo9 hi9 offs) len x y v) (ha : q_w32 a = a') (hl : q_w32 lo9 = lo9) (hh : q_w32 hi9 = hi9) (hd1 : q_tgt pc d lo9 hi9 offs (lo9 - 1) = some td) (hd2 : q_tgt pc d lo9 hi9 offs (hi9 + 1) = some td)
    (kd : a' < lo9 ∨ hi9 < a' → q_R Γ K n i P (td, lo, st, hp, [], cl, sl)) (kc : lo9 ≤ a' → a' ≤ hi9 → ∃ t, q_tgt pc d lo9 hi9 offs a' = some t ∧ q_R Γ K n i P (t, lo, st, hp, [], cl, sl)) : q_R Γ K n i P (pc, lo, (0, a) :: st, hp, [], cl, sl) := by
  subst ha
  have hs : q_stB q_mt q_df q_cf0 Γ.2.2.2.1 (q_mt i) pc lo ((0, a) :: st) hp [] cl sl (.tableswitch d lo9 hi9 offs) len x y v = q_oSw d lo9 hi9 offs pc lo ((0, a) :: st) hp [] cl sl := rfl
  have hrun : ∀ t, (∃ r1, q_cmp (q_w32 a) lo9 = r1 ∧ ((Nat.beq r1 0 = true ∧ q_tgt pc d lo9 hi9 offs (lo9 - 1) = some t) ∨ (Nat.beq r1 0 = false ∧ ∃ r2, q_cmp (q_w32 a) hi9 = r2 ∧ ((Nat.beq r2 2 = true ∧ q_tgt pc d lo9 hi9 offs (hi9 + 1) = some t) ∨ (Nat.beq r2 2 = false ∧ q_tgt pc d lo9 hi9 offs (q_w32 a) = some t))))) → q_oSw d lo9 hi9 offs pc lo ((0, a) :: st) hp [] cl sl = some ([(t, lo, st, hp, [], cl, sl)], []) := by
    rintro t ⟨r1, e1, ⟨b1, g1⟩ | ⟨b1, r2, e2, ⟨b2, g2⟩ | ⟨b2, g2⟩⟩⟩
    · unfold q_oSw
      show (q_all (fun q1 : Nat × q_I => bif Nat.beq q1.1 0 then (q_tgt pc d lo9 hi9 offs (lo9 - 1)).bind fun t => some [((t, lo, st, hp, q1.2, cl, sl) : q_C)] else _) [(q_cmp (q_w32 a) (q_w32 lo9), ([] : q_I))]).bind _ = _
      rw [hl, e1]
      show ((bif Nat.beq r1 0 then (q_tgt pc d lo9 hi9 offs (lo9 - 1)).bind fun t => some [((t, lo, st, hp, ([] : q_I), cl, sl) : q_C)] else _).bind _).bind _ = _
      rw [b1, g1]; rfl
    · unfold q_oSw
      show (q_all (fun q1 : Nat × q_I => bif Nat.beq q1.1 0 then (q_tgt pc d lo9 hi9 offs (lo9 - 1)).bind fun t => some [((t, lo, st, hp, q1.2, cl, sl) : q_C)] else (q_c3 q1.2 (q_conc q1.2 (0, a)) (0, hi9)).bind fun l2 => _) [(q_cmp (q_w32 a) (q_w32 lo9), ([] : q_I))]).bind _ = _
      rw [hl, e1]
      show ((bif Nat.beq r1 0 then _ else (some [(q_cmp (q_w32 a) (q_w32 hi9), ([] : q_I))]).bind fun l2 => (q_all (fun q2 : Nat × q_I => bif Nat.beq q2.1 2 then (q_tgt pc d lo9 hi9 offs (hi9 + 1)).bind fun t => some [((t, lo, st, hp, q2.2, cl, sl) : q_C)] else _) l2).bind _).bind _).bind _ = _
      rw [b1, hh, e2]
      show ((((bif Nat.beq r2 2 then (q_tgt pc d lo9 hi9 offs (hi9 + 1)).bind fun t => some [((t, lo, st, hp, ([] : q_I), cl, sl) : q_C)] else _).bind _).bind _).bind _).bind _ = _
      rw [b2, g2]; rfl
    · unfold q_oSw
      show (q_all (fun q1 : Nat × q_I => bif Nat.beq q1.1 0 then (q_tgt pc d lo9 hi9 offs (lo9 - 1)).bind fun t => some [((t, lo, st, hp, q1.2, cl, sl) : q_C)] else (q_c3 q1.2 (q_conc q1.2 (0, a)) (0, hi9)).bind fun l2 => _) [(q_cmp (q_w32 a) (q_w32 lo9), ([] : q_I))]).bind _ = _
      rw [hl, e1]
      show ((bif Nat.beq r1 0 then _ else (some [(q_cmp (q_w32 a) (q_w32 hi9), ([] : q_I))]).bind fun l2 => (q_all (fun q2 : Nat × q_I => bif Nat.beq q2.1 2 then (q_tgt pc d lo9 hi9 offs (hi9 + 1)).bind fun t => some [((t, lo, st, hp, q2.2, cl, sl) : q_C)] else (some [(q_w32 a, q2.2)]).bind fun l3 => q_all (fun q3 : Int × q_I => (q_tgt pc d lo9 hi9 offs q3.1).bind fun t => some ((t, lo, st, hp, q3.2, cl, sl) : q_C)) l3) l2).bind _).bind _).bind _ = _
      rw [b1, hh, e2]
      show ((((bif Nat.beq r2 2 then _ else ((q_tgt pc d lo9 hi9 offs (q_w32 a)).bind fun t => some ((t, lo, st, hp, ([] : q_I), cl, sl) : q_C)).bind fun b => (some []).bind fun bs => some (b :: bs)).bind _).bind _).bind _).bind _ = _
      rw [b2, g2]; rfl
  rcases q_cmp_s (q_w32 a) lo9 with ⟨e1, h1⟩ | ⟨e1, h1⟩ | ⟨e1, h1⟩
  · exact q_R.sB he (hs.trans (hrun td ⟨0, e1, Or.inl ⟨rfl, hd1⟩⟩)) (kd (Or.inl h1))
  all_goals
    rcases q_cmp_s (q_w32 a) hi9 with ⟨e2, h2⟩ | ⟨e2, h2⟩ | ⟨e2, h2⟩
    · obtain ⟨t, ht, kR⟩ := kc (by omega) (by omega)
      exact q_R.sB he (hs.trans (hrun t ⟨_, e1, Or.inr ⟨rfl, _, e2, Or.inr ⟨rfl, ht⟩⟩⟩)) kR
    · obtain ⟨t, ht, kR⟩ := kc (by omega) (by omega)
      exact q_R.sB he (hs.trans (hrun t ⟨_, e1, Or.inr ⟨rfl, _, e2, Or.inr ⟨rfl, ht⟩⟩⟩)) kR
    · exact q_R.sB he (hs.trans (hrun td ⟨_, e1, Or.inr ⟨rfl, _, e2, Or.inl ⟨rfl, hd2⟩⟩⟩)) (kd (Or.inr h2))
theorem r_fret {a : Int} (he : q_cat i pc .freturn len x y v) (hm : q_mk3 i 4 cl sl) (hP : P 1 (4, a) h) : q_R Γ K n i P (pc, lo, [(4, a)], q_hp K n h, [], cl, sl) := by
  refine q_R.end ((q_stp_c he _ _ _ _ _ _ _ _).trans ?_) hP
  show q_if (bif Nat.beq (q_mt i).2.1.2.2.2 4 then (bif Nat.beq 4 4 then (bif Nat.ble cl (q_mt i).2.2.1.2.2.1 then (bif Nat.ble sl (q_mt i).2.2.1.2.2.2 then _ else false) else false) else false) else false) _ = _
  rw [hm.1, hm.2.1, hm.2.2]; rfl
theorem r_dret {a : Int} (he : q_cat i pc .dreturn len x y v) (hm : q_mk3 i 5 cl sl) (hP : P 1 (5, a) h) : q_R Γ K n i P (pc, lo, [(5, a)], q_hp K n h, [], cl, sl) := by
  refine q_R.end ((q_stp_c he _ _ _ _ _ _ _ _).trans ?_) hP
  show q_if (bif Nat.beq (q_mt i).2.1.2.2.2 5 then (bif Nat.beq 5 5 then (bif Nat.ble cl (q_mt i).2.2.1.2.2.1 then (bif Nat.ble sl (q_mt i).2.2.1.2.2.2 then _ else false) else false) else false) else false) _ = _
  rw [hm.1, hm.2.1, hm.2.2]; rfl
theorem r_aretN {a : Int} (he : q_cat i pc .areturn len x y v) (hm : q_mk3 i 6 cl sl) (hP : P 1 (3, a) h) : q_R Γ K n i P (pc, lo, [(3, a)], q_hp K n h, [], cl, sl) := by
  refine q_R.end ((q_stp_c he _ _ _ _ _ _ _ _).trans ?_) hP
  show q_if (bif Nat.beq (q_mt i).2.1.2.2.2 6 then (bif (bif Nat.beq 3 2 then true else Nat.beq 3 3) then (bif Nat.ble cl (q_mt i).2.2.1.2.2.1 then (bif Nat.ble sl (q_mt i).2.2.1.2.2.2 then _ else false) else false) else false) else false) _ = _
  rw [hm.1, hm.2.1, hm.2.2]; rfl
theorem q_R.wk {ks : List Nat} (hs : q_pk ks lo = some lo') (k : q_R Γ K n i P (pc, lo', st, hp, [], cl, sl)) : q_R Γ K n i P (pc, lo, st, hp, [], cl, sl) := by
  obtain ⟨t, v9, h', hP, hT⟩ := k
  exact ⟨t, v9, h', hP, hT.wk (q_pk_m hs)⟩
/-- the room that a call of the class library wants -/
noncomputable def q_mrm (i fr lc cl sl : Nat) (st : List q_V) : Bool := bif Nat.ble fr (q_mt i).2.2.1.1 then (bif Nat.ble (Nat.add (q_wid st) lc) (q_mt i).2.2.1.2.1 then (bif Nat.ble cl (q_mt i).2.2.1.2.2.1 then Nat.ble sl (q_mt i).2.2.1.2.2.2 else false) else false) else false
theorem r_max {idx : Nat} {a b : Int} (he : q_cat i pc (.invokestatic idx) len x 6 v) (hm : q_mrm i 1 13 cl sl st = true) (hn : Nat.add pc len = nx) (k : q_R Γ K n i P (nx, lo, (0, if q_w32 a ≤ q_w32 b then b else a) :: st, hp, [], cl, sl)) : q_R Γ K n i P (pc, lo, (0, b) :: (0, a) :: st, hp, [], cl, sl) := by
  subst hn
  refine q_R.sB he ?_ k
  show q_if (q_mrm i 1 13 cl sl st) (q_nx (Nat.add pc len) lo ((bif q_ile (q_w32 a) (q_w32 b) then (0, b) else (0, a)) :: st) hp [] cl sl) = _
  rw [hm]
  by_cases h9 : q_w32 a ≤ q_w32 b
  · rw [if_pos h9, q_ile_t h9]; rfl
  · rw [if_neg h9, q_ile_f (by omega)]; rfl
theorem r_min {idx : Nat} {a b : Int} (he : q_cat i pc (.invokestatic idx) len x 7 v) (hm : q_mrm i 1 13 cl sl st = true) (hn : Nat.add pc len = nx) (k : q_R Γ K n i P (nx, lo, (0, if q_w32 a ≤ q_w32 b then a else b) :: st, hp, [], cl, sl)) : q_R Γ K n i P (pc, lo, (0, b) :: (0, a) :: st, hp, [], cl, sl) := by
  subst hn
  refine q_R.sB he ?_ k
  show q_if (q_mrm i 1 13 cl sl st) (q_nx (Nat.add pc len) lo ((bif q_ile (q_w32 a) (q_w32 b) then (0, a) else (0, b)) :: st) hp [] cl sl) = _
  rw [hm]
  by_cases h9 : q_w32 a ≤ q_w32 b
  · rw [if_pos h9, q_ile_t h9]; rfl
  · rw [if_neg h9, q_ile_f (by omega)]; rfl
theorem r_abs {idx : Nat} {a : Int} (he : q_cat i pc (.invokestatic idx) len x 8 v) (hm : q_mrm i 1 13 cl sl st = true) (hn : Nat.add pc len = nx) (k : q_R Γ K n i P (nx, lo, (0, if 0 ≤ q_w32 a then a else (0 - Int32.ofInt a).toInt) :: st, hp, [], cl, sl)) : q_R Γ K n i P (pc, lo, (0, a) :: st, hp, [], cl, sl) := by
  subst hn
  refine q_R.sB he ?_ k
  show q_if (q_mrm i 1 13 cl sl st) (q_if (Nat.beq 0 0) (q_nx (Nat.add pc len) lo ((0, bif q_ile 0 (q_w32 a) then a else (0 - Int32.ofInt a).toInt) :: st) hp [] cl sl)) = _
  rw [hm]
  by_cases h9 : 0 ≤ q_w32 a
  · rw [if_pos h9, q_ile_t h9]; rfl
  · rw [if_neg h9, q_ile_f (by omega)]; rfl
theorem r_maxl {idx : Nat} {a b : Int} (he : q_cat i pc (.invokestatic idx) len x 10 v) (hm : q_mrm i 1 15 cl sl st = true) (hn : Nat.add pc len = nx) (k : q_R Γ K n i P (nx, lo, (1, if q_w64 a ≤ q_w64 b then b else a) :: st, hp, [], cl, sl)) : q_R Γ K n i P (pc, lo, (1, b) :: (1, a) :: st, hp, [], cl, sl) := by
  subst hn
  refine q_R.sB he ?_ k
  show q_if (q_mrm i 1 15 cl sl st) (q_nx (Nat.add pc len) lo ((bif q_ile (q_w64 a) (q_w64 b) then (1, b) else (1, a)) :: st) hp [] cl sl) = _
  rw [hm]
  by_cases h9 : q_w64 a ≤ q_w64 b
  · rw [if_pos h9, q_ile_t h9]; rfl
  · rw [if_neg h9, q_ile_f (by omega)]; rfl
theorem r_absl {idx : Nat} {a : Int} (he : q_cat i pc (.invokestatic idx) len x 11 v) (hm : q_mrm i 1 13 cl sl st = true) (hn : Nat.add pc len = nx) (k : q_R Γ K n i P (nx, lo, (1, if q_w64 a ≤ 0 then q_w64 (-a) else a) :: st, hp, [], cl, sl)) : q_R Γ K n i P (pc, lo, (1, a) :: st, hp, [], cl, sl) := by
  subst hn
  refine q_R.sB he ?_ k
  show q_if (q_mrm i 1 13 cl sl st) (q_nx (Nat.add pc len) lo ((1, bif q_ile (q_w64 a) 0 then q_w64 (Int.neg a) else a) :: st) hp [] cl sl) = _
  rw [hm]
  by_cases h9 : q_w64 a ≤ 0
  · rw [if_pos h9, q_ile_t h9]; rfl
  · rw [if_neg h9, q_ile_f (by omega)]; rfl
theorem r_maxf {idx : Nat} {a b : Int} (he : q_cat i pc (.invokestatic idx) len x 12 v) (hm : q_mrm i 5 150 cl sl st = true) (hn : Nat.add pc len = nx) (ha : q_n32 (UInt32.ofNat a.toNat) = true) (hb : q_n32 (UInt32.ofNat b.toNat) = true) (k : q_R Γ K n i P (nx, lo, (4, Int.ofNat (q_fmx (UInt32.ofNat a.toNat) (UInt32.ofNat b.toNat)).toNat) :: st, hp, [], cl, sl)) : q_R Γ K n i P (pc, lo, (4, b) :: (4, a) :: st, hp, [], cl, sl) := by
  subst hn
  refine q_R.sB he ?_ k
  show q_if (q_mrm i 5 150 cl sl st) _ = _
  rw [hm]
  show q_if (bif q_n32 (UInt32.ofNat a.toNat) then q_n32 (UInt32.ofNat b.toNat) else false) _ = _
  rw [ha, hb]; rfl
theorem q_sb_l (n : Nat) : (q_sb n).length ≤ 10 := by
  unfold q_sb
  split <;> exact Nat.le_of_ble_eq_true rfl
theorem r_slen {idx : Nat} {z : Int} (he : q_cat i pc (.invokevirtual idx) len x 1 v) (hm : q_mrm i 5 150 cl sl st = true) (h3 : 3 ≤ z.toNat) (h9 : z.toNat ≤ 9) (hn : Nat.add pc len = nx) (k : ∀ L : Int, L = ((q_sb (q_sw z)).length : Int) → 0 ≤ L → L ≤ 10 → q_R Γ K n i P (nx, lo, (0, L) :: st, hp, [], cl, sl)) : q_R Γ K n i P (pc, lo, (9, z) :: st, hp, [], cl, sl) := by
  subst hn
  have hl := q_sb_l (q_sw z)
  refine q_R.sB he ?_ (k _ rfl (by omega) (by omega))
  show q_if (bif Nat.beq 9 9 then (bif Nat.ble 3 z.toNat then (bif Nat.ble z.toNat 9 then q_mrm i 5 150 cl sl st else false) else false) else false) (q_nx (Nat.add pc len) lo ((0, Int.ofNat (q_len (q_sb (q_sw z)))) :: st) hp [] cl sl) = _
  rw [Nat.ble_eq_true_of_le h3, Nat.ble_eq_true_of_le h9, hm, q_len_g]; rfl
theorem r_schar {idx : Nat} {z j j' : Int} (he : q_cat i pc (.invokevirtual idx) len x 2 v) (hm : q_mrm i 5 150 cl sl st = true) (h3 : 3 ≤ z.toNat) (h9 : z.toNat ≤ 9) (hj : q_w32 j = j') (hj0 : 0 ≤ j') (hj1 : j' < ((q_sb (q_sw z)).length : Int)) (hn : Nat.add pc len = nx) (k : ∀ c, (q_sb (q_sw z))[j'.toNat]? = some c → q_R Γ K n i P (nx, lo, (0, c) :: st, hp, [], cl, sl)) : q_R Γ K n i P (pc, lo, (0, j) :: (9, z) :: st, hp, [], cl, sl) := by
  subst hn; subst hj
  have hlt : (q_w32 j).toNat < (q_sb (q_sw z)).length := by omega
  have hc : (q_sb (q_sw z))[(q_w32 j).toNat]? = some ((q_sb (q_sw z))[(q_w32 j).toNat]) := List.getElem?_eq_getElem hlt
  refine q_R.sB he ?_ (k _ hc)
  show q_if (bif Nat.beq 0 0 then (bif Nat.beq 9 9 then (bif Nat.ble 3 z.toNat then (bif Nat.ble z.toNat 9 then q_mrm i 5 150 cl sl st else false) else false) else false) else false) (q_if (bif q_ile 0 (q_w32 j) then Nat.ble (Nat.succ (q_w32 j).toNat) (q_len (q_sb (q_sw z))) else false) ((q_nth (q_sb (q_sw z)) (q_w32 j).toNat).bind fun c => q_nx (Nat.add pc len) lo ((0, c) :: st) hp [] cl sl)) = _
  rw [Nat.ble_eq_true_of_le h3, Nat.ble_eq_true_of_le h9, hm, q_len_g, q_ix2 hj0 hj1, q_nth_g, hc]; rfl
theorem r_aret9 {a : Int} (he : q_cat i pc .areturn len x y v) (hm : q_mk3 i 6 cl sl) (hP : P 1 (9, a) h) : q_R Γ K n i P (pc, lo, [(9, a)], q_hp K n h, [], cl, sl) := by
  refine q_R.end ((q_stp_c he _ _ _ _ _ _ _ _).trans ?_) hP
  show q_if (bif Nat.beq (q_mt i).2.1.2.2.2 6 then (bif (bif Nat.beq 9 2 then true else bif Nat.beq 9 3 then true else Nat.beq 9 9) then (bif Nat.ble cl (q_mt i).2.2.1.2.2.1 then (bif Nat.ble sl (q_mt i).2.2.1.2.2.2 then _ else false) else false) else false) else false) _ = _
  rw [hm.1, hm.2.1, hm.2.2]; rfl
theorem r_ifn0 {off : Int} {z : Int} (he : q_cat i pc (.ifnull off) len x y v) (k : q_R Γ K n i P (x, lo, st, hp, [], cl, sl)) : q_R Γ K n i P (pc, lo, (3, z) :: st, hp, [], cl, sl) := q_R.sB he rfl k
/-- the receiver is of the class -/
noncomputable def q_rco (hp : q_H) (ar : List q_V) (C : Nat) : Bool := match ar with
  | [] => false
  | a :: _ => match q_at hp a with
    | none => false
    | some e => bif Nat.beq e.1 0 then Nat.beq e.2.1 C else false
/-- how a run goes on behind a call that ended so -/
def q_Kt (Γ : q_Γ) (K : Nat → q_Ly) (n i : Nat) (P : Nat → q_V → q_F → Prop) (pc : Nat) (lo : q_L) (rest : List q_V) (cl sl t : Nat) (w : q_V) (h' : q_F) : Prop :=
  (t = 0 ∧ q_R Γ K n i P (Nat.add pc 3, lo, rest, q_hp K n h', [], cl, sl)) ∨ (t = 1 ∧ q_R Γ K n i P (Nat.add pc 3, lo, w :: rest, q_hp K n h', [], cl, sl)) ∨
  (∃ E, t = Nat.add E 2 ∧ ((∃ hd, q_hd (q_mt i).2.2.2 pc E = some hd ∧ q_R Γ K n i P (hd, lo, [(10, 0)], q_hp K n h', [], cl, sl)) ∨ (q_hd (q_mt i).2.2.2 pc E = none ∧ P t w h')))
theorem r_callG {ins : Instr} {ar rest : List q_V} {Pc : Nat → q_V → q_F → Prop} (he : q_cat i pc ins len x y v)
    (hins : ∀ cf : Nat → List q_V → q_H → q_I → Option (List q_Lf), q_stB q_mt q_df cf Γ.2.2.2.1 (q_mt i) pc lo st (q_hp K n h) [] cl sl ins len x y v = q_oCall cf (q_mt i) (q_mt x) x y pc lo st (q_hp K n h) [] cl sl)
    (htk : q_take (q_mt x).2.1.2.2.1 st = some (ar, rest)) (hrm : q_rms i x cl sl rest = true)
    (hrec : (bif (bif Nat.beq y 0 then true else bif Nat.beq y 2 then true else Nat.beq y 4) then q_rco (q_hp K n h) ar (q_mt x).2.1.2.1 else true) = true)
    (hok : q_M Γ K n x ar h Pc) (k : ∀ t w h', Pc t w h' → q_Kt Γ K n i P pc lo rest (Nat.add cl (q_mt x).2.2.1.2.2.1) (Nat.add sl (q_mt x).2.2.1.2.2.2) t w h') : q_R Γ K n i P (pc, lo, st, q_hp K n h, [], cl, sl) := by
  obtain ⟨t, w, h', hPc, hO⟩ := hok
  have hs : q_step q_mt q_df (q_cf1 x ar (q_hp K n h) [(t, w, q_hp K n h', [])]) Γ.2.2.2.1 (q_mt i) (pc, lo, st, q_hp K n h, [], cl, sl) = some (q_conts (q_mt i).2.2.2 pc lo rest (Nat.add cl (q_mt x).2.2.1.2.2.1) (Nat.add sl (q_mt x).2.2.1.2.2.2) [(t, w, q_hp K n h', [])]) := by
    rw [q_stp_c he, hins]
    unfold q_oCall
    rw [htk]
    show q_if (q_rms i x cl sl rest) (q_if _ _) = _
    rw [hrm]
    show q_if (bif (bif Nat.beq y 0 then true else bif Nat.beq y 2 then true else Nat.beq y 4) then q_rco (q_hp K n h) ar (q_mt x).2.1.2.1 else true) _ = _
    rw [hrec]
    show (q_cf1 x ar (q_hp K n h) [(t, w, q_hp K n h', [])] x ar (q_hp K n h) []).bind _ = _
    rw [q_cf1_e]; rfl
  generalize Nat.add cl (q_mt x).2.2.1.2.2.1 = cl2 at hs k
  generalize Nat.add sl (q_mt x).2.2.1.2.2.2 = sl2 at hs k
  rcases k t w h' hPc with ⟨rfl, hR⟩ | ⟨rfl, hR⟩ | ⟨E, rfl, ⟨hd, hhd, hR⟩ | ⟨hhd, hR⟩⟩
  · obtain ⟨t2, v2, h2, hP2, hT⟩ := hR
    exact ⟨t2, v2, h2, hP2, q_To.st (q_cf1_c hO) hs (fun c hc => by cases List.mem_singleton.mp hc; exact hT) (fun lf hl => by cases hl)⟩
  · obtain ⟨t2, v2, h2, hP2, hT⟩ := hR
    refine ⟨t2, v2, h2, hP2, q_To.st (q_cf1_c hO) hs (fun c hc => ?_) (fun lf hl => by cases hl)⟩
    have hc : c ∈ [((Nat.add pc 3, lo, q_conc [] w :: rest, q_hp K n h', [], cl2, sl2) : q_C)] := hc
    rw [q_conc_nil] at hc
    cases List.mem_singleton.mp hc
    exact hT
  · obtain ⟨t2, v2, h2, hP2, hT⟩ := hR
    have e : q_conts (q_mt i).2.2.2 pc lo rest cl2 sl2 [(Nat.add E 2, w, q_hp K n h', [])] = ([(hd, lo, [(10, 0)], q_hp K n h', [], cl2, sl2)], []) := by
      show (q_app (match q_hd (q_mt i).2.2.2 pc E with
        | some h => (([(h, lo, [(10, 0)], q_hp K n h', [], cl2, sl2)], []) : List q_C × List q_Lf)
        | none => ([], [(Nat.add E 2, w, q_hp K n h', [])])).1 [], q_app (match q_hd (q_mt i).2.2.2 pc E with
        | some h => (([(h, lo, [(10, 0)], q_hp K n h', [], cl2, sl2)], []) : List q_C × List q_Lf)
        | none => ([], [(Nat.add E 2, w, q_hp K n h', [])])).2 []) = _
      rw [hhd]; rfl
    rw [e] at hs
    exact ⟨t2, v2, h2, hP2, q_To.st (q_cf1_c hO) hs (fun c hc => by cases List.mem_singleton.mp hc; exact hT) (fun lf hl => by cases hl)⟩
  · have e : q_conts (q_mt i).2.2.2 pc lo rest cl2 sl2 [(Nat.add E 2, w, q_hp K n h', [])] = ([], [(Nat.add E 2, w, q_hp K n h', [])]) := by
      show (q_app (match q_hd (q_mt i).2.2.2 pc E with
        | some h => (([(h, lo, [(10, 0)], q_hp K n h', [], cl2, sl2)], []) : List q_C × List q_Lf)
        | none => ([], [(Nat.add E 2, w, q_hp K n h', [])])).1 [], q_app (match q_hd (q_mt i).2.2.2 pc E with
        | some h => (([(h, lo, [(10, 0)], q_hp K n h', [], cl2, sl2)], []) : List q_C × List q_Lf)
        | none => ([], [(Nat.add E 2, w, q_hp K n h', [])])).2 []) = _
      rw [hhd]; rfl
    rw [e] at hs
    exact ⟨_, w, h', hR, q_To.st (q_cf1_c hO) hs (fun c hc => by cases hc) (fun lf hl => hl)⟩
/-- an end with an answer; one without; a throw -/
def q_P1 (p : q_V → q_F → Prop) : Nat → q_V → q_F → Prop := fun t w h => t = 1 ∧ p w h
def q_P0 (p : q_F → Prop) : Nat → q_V → q_F → Prop := fun t _ h => t = 0 ∧ p h
/-- the class of a receiver -/
theorem q_rec {ar : List q_V} {kk N : Nat} {ds : List q_Ds} {C : Nat} (hk : kk < n) (hN : n ≤ 256) (hK : K kk = (0, N, ds)) (hC : C = N) : q_rco (q_hp K n h) ((2, Int.ofNat kk) :: ar) C = true := by
  unfold q_rco
  dsimp only
  rw [q_hp_at hk hN, hK, hC]
  show Nat.beq N N = true
  exact Nat.beq_refl N
theorem r_vcG {idx kk N : Nat} {ds : List q_Ds} {ar rest : List q_V} {Pc : Nat → q_V → q_F → Prop} (he : q_cat i pc (.invokevirtual idx) len x 0 v) (hk : kk < n) (hN : n ≤ 256) (hK : K kk = (0, N, ds)) (hC : (q_mt x).2.1.2.1 = N)
    (htk : q_take (q_mt x).2.1.2.2.1 st = some ((2, Int.ofNat kk) :: ar, rest)) (hrm : q_rms i x cl sl rest = true) (hok : q_M Γ K n x ((2, Int.ofNat kk) :: ar) h Pc) (k : ∀ t w h', Pc t w h' → q_Kt Γ K n i P pc lo rest (Nat.add cl (q_mt x).2.2.1.2.2.1) (Nat.add sl (q_mt x).2.2.1.2.2.2) t w h') : q_R Γ K n i P (pc, lo, st, q_hp K n h, [], cl, sl) :=
  r_callG he (fun cf => rfl) htk hrm (q_rec (ar := ar) hk hN hK hC) hok k
/-- a call of the receiver's method that returns a value -/
theorem r_vcall1 {idx kk N : Nat} {ds : List q_Ds} {ar rest : List q_V} {p : q_V → q_F → Prop} {cl' sl' : Nat} (he : q_cat i pc (.invokevirtual idx) len x 0 v) (hk : kk < n) (hN : n ≤ 256) (hK : K kk = (0, N, ds)) (hC : (q_mt x).2.1.2.1 = N)
    (htk : q_take (q_mt x).2.1.2.2.1 st = some ((2, Int.ofNat kk) :: ar, rest)) (hrm : q_rms i x cl sl rest = true) (hcl : Nat.add cl (q_mt x).2.2.1.2.2.1 = cl') (hsl : Nat.add sl (q_mt x).2.2.1.2.2.2 = sl') (hn : Nat.add pc 3 = nx)
    (hok : q_M Γ K n x ((2, Int.ofNat kk) :: ar) h (q_P1 p)) (k : ∀ w h', p w h' → q_R Γ K n i P (nx, lo, w :: rest, q_hp K n h', [], cl', sl')) : q_R Γ K n i P (pc, lo, st, q_hp K n h, [], cl, sl) := by
  subst hcl; subst hsl; subst hn
  exact r_callG he (fun cf => rfl) htk hrm (q_rec (ar := ar) hk hN hK hC) hok (fun t w h' hp => Or.inr (Or.inl ⟨hp.1, k w h' hp.2⟩))
theorem r_vcall0 {idx kk N : Nat} {ds : List q_Ds} {ar rest : List q_V} {p : q_F → Prop} {cl' sl' : Nat} (he : q_cat i pc (.invokevirtual idx) len x 0 v) (hk : kk < n) (hN : n ≤ 256) (hK : K kk = (0, N, ds)) (hC : (q_mt x).2.1.2.1 = N)
    (htk : q_take (q_mt x).2.1.2.2.1 st = some ((2, Int.ofNat kk) :: ar, rest)) (hrm : q_rms i x cl sl rest = true) (hcl : Nat.add cl (q_mt x).2.2.1.2.2.1 = cl') (hsl : Nat.add sl (q_mt x).2.2.1.2.2.2 = sl') (hn : Nat.add pc 3 = nx)
    (hok : q_M Γ K n x ((2, Int.ofNat kk) :: ar) h (q_P0 p)) (k : ∀ h', p h' → q_R Γ K n i P (nx, lo, rest, q_hp K n h', [], cl', sl')) : q_R Γ K n i P (pc, lo, st, q_hp K n h, [], cl, sl) := by
  subst hcl; subst hsl; subst hn
  exact r_callG he (fun cf => rfl) htk hrm (q_rec (ar := ar) hk hN hK hC) hok (fun t w h' hp => Or.inl ⟨hp.1, k h' hp.2⟩)
theorem r_scall1 {idx : Nat} {ar rest : List q_V} {p : q_V → q_F → Prop} {cl' sl' : Nat} (he : q_cat i pc (.invokestatic idx) len x y v) (hy : y = 1 ∨ y = 3)
    (htk : q_take (q_mt x).2.1.2.2.1 st = some (ar, rest)) (hrm : q_rms i x cl sl rest = true) (hcl : Nat.add cl (q_mt x).2.2.1.2.2.1 = cl') (hsl : Nat.add sl (q_mt x).2.2.1.2.2.2 = sl') (hn : Nat.add pc 3 = nx)
    (hok : q_M Γ K n x ar h (q_P1 p)) (k : ∀ w h', p w h' → q_R Γ K n i P (nx, lo, w :: rest, q_hp K n h', [], cl', sl')) : q_R Γ K n i P (pc, lo, st, q_hp K n h, [], cl, sl) := by
  subst hcl; subst hsl; subst hn
  rcases hy with rfl | rfl
  · exact r_callG he (fun cf => rfl) htk hrm rfl hok (fun t w h' hp => Or.inr (Or.inl ⟨hp.1, k w h' hp.2⟩))
  · exact r_callG he (fun cf => rfl) htk hrm rfl hok (fun t w h' hp => Or.inr (Or.inl ⟨hp.1, k w h' hp.2⟩))
theorem r_scall0 {idx : Nat} {ar rest : List q_V} {p : q_F → Prop} {cl' sl' : Nat} (he : q_cat i pc (.invokestatic idx) len x y v) (hy : y = 1 ∨ y = 3)
    (htk : q_take (q_mt x).2.1.2.2.1 st = some (ar, rest)) (hrm : q_rms i x cl sl rest = true) (hcl : Nat.add cl (q_mt x).2.2.1.2.2.1 = cl') (hsl : Nat.add sl (q_mt x).2.2.1.2.2.2 = sl') (hn : Nat.add pc 3 = nx)
    (hok : q_M Γ K n x ar h (q_P0 p)) (k : ∀ h', p h' → q_R Γ K n i P (nx, lo, rest, q_hp K n h', [], cl', sl')) : q_R Γ K n i P (pc, lo, st, q_hp K n h, [], cl, sl) := by
  subst hcl; subst hsl; subst hn
  rcases hy with rfl | rfl
  · exact r_callG he (fun cf => rfl) htk hrm rfl hok (fun t w h' hp => Or.inl ⟨hp.1, k h' hp.2⟩)
  · exact r_callG he (fun cf => rfl) htk hrm rfl hok (fun t w h' hp => Or.inl ⟨hp.1, k h' hp.2⟩)
end q_rows
