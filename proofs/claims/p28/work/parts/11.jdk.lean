section -- [11q.max]
/-! Part 11q: Math.max of two floats that are numbers: the machine answers it by an entry of its own. -/
theorem k_no {x : UInt32} (h : q_n32 x = true) : FP.fIsNaN x = false := by
  have h1 : x &&& 0x7fffffff ≤ 0x7f800000 := of_decide_eq_true h
  rw [UInt32.le_iff_toNat_le, UInt32.toNat_and, show (0x7fffffff : UInt32).toNat = 2 ^ 31 - 1 by decide, show (0x7f800000 : UInt32).toNat = 2139095040 by decide, Nat.and_two_pow_sub_one_eq_mod] at h1
  show FP.Core.fIsNaN x = false
  cases c : FP.Core.fIsNaN x with
  | false => rfl
  | true => have := (FP.Core.isNaN_bits32 x).mp c; omega
def k_fv (a b : UInt32) : Array Value := #[.float a, .float b]
def k_mxr : NativeRow := ((Native.java_lang_Math.nans.extremum "max" true "nat.java_lang_Math.max" "nat.java_lang_Math.max/float")[1]?).getD (Native.java_lang_Math.nans.byStrictMath "ceil" "")
set_option maxRecDepth 100000 in
theorem k_mxf (p : Program) : NativeRow.find? p.tables.natives "java/lang/Math" "max" "(FF)F" = some k_mxr := by
  cases p <;> rfl
theorem k_mxs {a b : UInt32} (ha : q_n32 a = true) (hb : q_n32 b = true) (e : Env) (S : State) : ∃ acts, (k_mxr.sem (k_fv a b)).run e S = .ok (some (.float (q_fmx a b))) S acts := by
  have e1 : k_mxr.sem (k_fv a b) = (do
      let r ← if FP.fIsNaN a then anyNaN32 a else if FP.fIsNaN b then anyNaN32 b else Pure.pure (q_fmx a b)
      mark "nat.java_lang_Math.max/float"
      Pure.pure (some (Value.float r))) := rfl
  rw [e1, k_no ha, k_no hb]
  exact ⟨_, rfl⟩
section k_mxsec
variable {p : Program} {l : Launch} {e : Env} {R : Room} {s : State} {m : MethodId} {args : Array Value} {below : List Frame} {meth : Method} {c : Code} {Q : State → Prop} {H : Heap} {locs : List Loc} {cells slots : Nat}
/-- the one step that the entry takes: the method's own frame goes, the answer lies on the caller's stack -/
theorem k_mxt {U : State} {g : JFrame} {x : MethodId} {mx : Method} {kx : Class} {a b : UInt32} (na : q_n32 a = true) (nb : q_n32 b = true)
    (hcur : U.cur < U.threads.size) (hfr : U.frames = .java { method := x, pc := 0, locals := #[.val (.float a), .val (.float b)], stack := [], locked := none } :: .java g :: below)
    (hk : U.vm.classes[x.cls]? = some kx) (hm : kx.methods[x.idx]? = some mx) (hl : kx.loader = none) (hn : kx.name = "java/lang/Math") (hmn : mx.name = "max") (hmd : mx.desc = "(FF)F") (hst : mx.isStatic = true) (hpar : mx.sig.parameters.length = 2)
    {cg : Code} (hcg : U.code? g.method = some cg) {ig : Instr} {len : Nat} (hdg : decode cg.code g.pc = .ok (ig, len)) :
    (stepThread p.tables e U).1 = U.setFrames (.java { g with pc := g.pc + len, stack := .float (q_fmx a b) :: g.stack } :: below) := by
  have hov : overridden p.tables e U { method := x, pc := 0, locals := #[.val (.float a), .val (.float b)], stack := [], locked := none } = some k_mxr := by
    unfold overridden
    simp only [hk, hm, hl, hn, hmn, hmd, k_mxf p]
    rfl
  have hct : argCount U x = 2 := by
    unfold argCount
    simp [hk, hm, hpar, hst]
  obtain ⟨acts, hr⟩ := k_mxs na nb e (U.setFrames (.native { method := x, args := k_fv a b } :: .java g :: below))
  unfold stepThread
  rw [hfr]
  simp only [hov, hct]
  change (afterNative e { method := x, args := k_fv a b } (.java g :: below) ((k_mxr.sem (k_fv a b)).run e (U.setFrames (.native { method := x, args := k_fv a b } :: .java g :: below)))).1 = _
  rw [hr]
  show (doReturn e _ acts _).1 = _
  have hfs : handOver (U.setFrames (.native { method := x, args := k_fv a b } :: .java g :: below)) (some (.float (q_fmx a b))) (.java g :: below) = some (.java { g with pc := g.pc + len, stack := .float (q_fmx a b) :: g.stack } :: below) := by
    have h1 : (U.setFrames (.native { method := x, args := k_fv a b } :: .java g :: below)).code? g.method = some cg := hcg
    simp only [handOver, h1, Option.bind_some, hdg]
    rfl
  rw [doReturn_native (f := { method := x, args := k_fv a b }) (below := .java g :: below) (State.frames_setFrames _ hcur) rfl hfs, State.setFrames_setFrames]
theorem k_mx0 {T : State} (X : Stand p l e R s m args below meth c T locs cells slots) (hexec : p.tables.exec = Jvm.exec) {own : String} {index : Nat} (hown : s.vm.findClass own = some m.cls) (hlink : (Cond.methodLink own index q_mxf).before args s = true) (hstat : (Cond.static q_mxf).before args s = true) (hinit : (Cond.initialized "java/lang/Math").before args s = true) {mb : ByteArray} (hcode : (Cond.code q_mxf mb 2 (some .float)).before args s = true)
    {g : JFrame} (hg : g.method = m) (hsize : g.locals.size = c.maxLocals) {rest : List Value} {a b : UInt32} (na : q_n32 a = true) (nb : q_n32 b = true) (hstack : g.stack = .float b :: .float a :: rest) (hdg : decode c.code g.pc = .ok (.invokestatic index, 3)) (hframes : 1 ≤ R.frames) (hlocals : 2 * g.monitorRoom + (rest.map fun v => v.category).sum + 13 ≤ R.locals) :
    ∃ vm', Stand p l e R s m args below meth c (T.setVm vm') locs cells slots ∧ ∀ target, Steps p.tables e below ((T.setVm vm').setTop { g with pc := g.pc + 3, stack := .float (q_fmx a b) :: rest }) target → Steps p.tables e below (T.setTop g) target := by
  obtain ⟨mk, hnamed⟩ := Cond.code_named hcode
  obtain ⟨methM, cM, hmethM, -, -, -, -, -, -, hsigM⟩ := Cond.code_spec hnamed hcode
  have hstatic : methM.isStatic = true := Cond.static_spec hnamed hmethM hstat
  obtain ⟨kP, hkP, -⟩ := className_of_methodNamed hnamed
  have hinitP : kP.init = .initialized := Cond.initialized_spec (findClass_of_methodNamed hnamed) hkP hinit
  have hsig2 : parseMethodDescriptor q_mxf.desc = some { parameters := [.float, .float], returnType := some .float } := by decide +kernel
  have hpar : methM.sig.parameters.length = 2 := by
    rw [hsig2] at hsigM
    rw [← Option.some.inj hsigM]; rfl
  obtain ⟨vm₁, X₁, hstep₁⟩ := X.invokestatic hexec hown hlink hnamed hmethM hstatic hkP hinitP (by decide) (g := g) hg (argsL := [.float a, .float b]) (rest := rest) (by rw [hpar]; rfl) hstack hdg
  refine ⟨vm₁, X₁, fun target hrest => hstep₁ target fun acts => ?_⟩
  -- the method in the state as it stands now
  have hnU := X₁.named hnamed
  have hcodeU : (Cond.code q_mxf mb 2 (some .float)).before args (T.setVm vm₁) = true := Cond.tabsOnly_warm (args' := args) (T := T.setVm vm₁) X₁.warmed _ rfl hcode
  have hstatU : (Cond.static q_mxf).before args (T.setVm vm₁) = true := Cond.tabsOnly_warm (args' := args) (T := T.setVm vm₁) X₁.warmed _ rfl hstat
  obtain ⟨mU, cU, hmU, hcU, -, hlU, -, hkU, -, hsigU⟩ := Cond.code_spec hnU hcodeU
  have hstU : mU.isStatic = true := Cond.static_spec hnU hmU hstatU
  have hparU : mU.sig.parameters.length = 2 := by
    rw [hsig2] at hsigU
    rw [← Option.some.inj hsigU]; rfl
  obtain ⟨kU, hkcU, hknU⟩ := className_of_methodNamed hnU
  obtain ⟨hmnU, hmdU⟩ := name_of_methodNamed hnU hmU
  have hkc2 : vm₁.classes[mk.cls]? = some kU := hkcU
  have hmxU : kU.methods[mk.idx]? = some mU := by simpa [Vm.method?, hkc2] using hmU
  have hboot : kU.loader = none := Vm.bootOf_findClass (findClass_of_methodNamed hnU) hkcU
  have hcur : ((T.setVm vm₁).setTop { g with stack := rest }).cur < ((T.setVm vm₁).setTop { g with stack := rest }).threads.size := by
    have hF : ((T.setVm vm₁).setTop { g with stack := rest }).frames = .java { g with stack := rest } :: below := by rw [State.frames_setTop' _ X₁.here.top, X₁.tail]
    exact State.cur_lt_of_frames hF
  have hF : ((T.setVm vm₁).setTop { g with stack := rest }).frames = .java { g with stack := rest } :: below := by rw [State.frames_setTop' _ X₁.here.top, X₁.tail]
  have hfull := X₁.notFull (g := { g with stack := rest }) hsize (vars := cU.maxLocals) hframes (by rw [hlU]; exact hlocals)
  rw [(doInvoke_java (s := (T.setVm vm₁).setTop { g with stack := rest }) (e := e) (acts := acts) (args := ([.float a, .float b] : List Value).toArray) (meth := mU) (code := cU) hmU hcU hkU hfull).1, hlU]
  have hS1 : ((T.setVm vm₁).setTop { g with stack := rest }).pushFrame (.java { method := mk, pc := 0, locals := argsToLocals ([.float a, .float b] : List Value).toArray 2, stack := [], locked := none }) = ((T.setVm vm₁).setTop { g with stack := rest }).setFrames (.java { method := mk, pc := 0, locals := #[.val (.float a), .val (.float b)], stack := [], locked := none } :: .java { g with stack := rest } :: below) := by
    rw [State.pushFrame, hF]; rfl
  rw [hS1]
  obtain ⟨g0, hg0⟩ := Option.isSome_iff_exists.mp X₁.here.top
  obtain ⟨r0, hr0⟩ := State.topJava?_eq_some.mp hg0
  have hr1 : r0 = below := by
    have := X₁.tail
    rw [hr0] at this
    exact this
  subst hr1
  have hS0 : ∀ F : List Frame, ((T.setVm vm₁).setTop { g with stack := rest }).setFrames F = (T.setVm vm₁).setFrames F := fun F => by rw [State.setTop_of_frames _ hr0, State.setFrames_setFrames]
  rw [hS0]
  have hcur0 := State.cur_lt_of_frames hr0
  have hfr1 := State.frames_setFrames (s := T.setVm vm₁) (.java { method := mk, pc := 0, locals := #[.val (.float a), .val (.float b)], stack := [], locked := none } :: .java { g with stack := rest } :: r0) hcur0
  have hst1 := k_mxt (p := p) (e := e) (U := (T.setVm vm₁).setFrames (.java { method := mk, pc := 0, locals := #[.val (.float a), .val (.float b)], stack := [], locked := none } :: .java { g with stack := rest } :: r0)) na nb (State.cur_lt_of_frames hfr1) hfr1 (kx := kU) (mx := mU) hkcU hmxU hboot hknU hmnU hmdU hstU hparU (cg := c) (by rw [hg]; exact X₁.here.code) hdg
  refine Steps.head ⟨X₁.here.running, by simpa using X₁.here.runnable, by simpa using X₁.here.alone⟩ ⟨[.java { method := mk, pc := 0, locals := #[.val (.float a), .val (.float b)], stack := [], locked := none }, .java { g with stack := rest }], by rw [hfr1]; rfl, by simp, by simp⟩ ?_
  rw [hst1, State.setFrames_setFrames, ← State.setTop_of_frames _ hr0]
  exact hrest
/-- a call of Math.max of two floats -/
theorem k_mxw {cc : ByteArray} {pc : Nat} {ls : Array Slot} {rest : List Value} (hexec : p.tables.exec = Jvm.exec) (hb : c.code = cc) (hml : c.maxLocals = ls.size) {own : String} {index : Nat} (hown : s.vm.findClass own = some m.cls) (hlink : (Cond.methodLink own index q_mxf).before args s = true) (hstat : (Cond.static q_mxf).before args s = true) (hinit : (Cond.initialized "java/lang/Math").before args s = true) {mb : ByteArray} (hcode : (Cond.code q_mxf mb 2 (some .float)).before args s = true) {a b : UInt32} (na : q_n32 a = true) (nb : q_n32 b = true)
    (hframes : 1 ≤ R.frames) (hlocals : (rest.map fun v => v.category).sum + 13 ≤ R.locals) (hdg : decode cc pc = .ok (.invokestatic index, 3))
    (k : W p l e R s m args below meth c H locs cells slots Q (F0 m (pc + 3) ls (.float (q_fmx a b) :: rest))) : W p l e R s m args below meth c H locs cells slots Q (F0 m pc ls (.float b :: .float a :: rest)) := by
  intro T hT X
  obtain ⟨vm', X', st⟩ := k_mx0 X hexec hown hlink hstat hinit hcode (g := F0 m pc ls (.float b :: .float a :: rest)) rfl (by rw [hml]) na nb rfl (by rw [hb]; exact hdg) hframes (by show 2 * 0 + _ + 13 ≤ _; omega)
  obtain ⟨t, a1, b1⟩ := k (T.setVm vm') hT X'
  exact ⟨t, st t a1, b1⟩
end k_mxsec
end -- [11q.max]
section -- [11r.jdk]
/-! Part 11r: the class library's own methods that are reached: a text's length and bytes, the greater one of two floats. Printed by wip/tools/gen11r.py. -/
def k_S : String := "java/lang/String"
def k_P : String := "jdk/internal/util/Preconditions"
def k_L1 : String := "java/lang/StringLatin1"
def k_M : String := "java/lang/Math"
def k_f2i : MethodName := ⟨"java/lang/Float", "floatToRawIntBits", "(F)I"⟩
abbrev k_b_coder : ByteArray := prog_23_method_152_code
def k_y_coder : MethodName := ⟨k_S, "coder", "()B"⟩
theorem k_d_coder_0 : decode k_b_coder 0 = .ok (.getstatic 38, 3) := by decide +kernel
theorem k_d_coder_3 : decode k_b_coder 3 = .ok (.ifCond .eq 10, 3) := by decide +kernel
theorem k_d_coder_6 : decode k_b_coder 6 = .ok (.aload_n 0, 1) := by decide +kernel
theorem k_d_coder_7 : decode k_b_coder 7 = .ok (.getfield 15, 3) := by decide +kernel
theorem k_d_coder_10 : decode k_b_coder 10 = .ok (.goto 4, 3) := by decide +kernel
theorem k_d_coder_13 : decode k_b_coder 13 = .ok (.iconst 1, 1) := by decide +kernel
theorem k_d_coder_14 : decode k_b_coder 14 = .ok (.ireturn, 1) := by decide +kernel
abbrev k_b_len : ByteArray := prog_23_method_54_code
def k_y_len : MethodName := ⟨k_S, "length", "()I"⟩
theorem k_d_len_0 : decode k_b_len 0 = .ok (.aload_n 0, 1) := by decide +kernel
theorem k_d_len_1 : decode k_b_len 1 = .ok (.getfield 9, 3) := by decide +kernel
theorem k_d_len_4 : decode k_b_len 4 = .ok (.arraylength, 1) := by decide +kernel
theorem k_d_len_5 : decode k_b_len 5 = .ok (.aload_n 0, 1) := by decide +kernel
theorem k_d_len_6 : decode k_b_len 6 = .ok (.invokevirtual 335, 3) := by decide +kernel
theorem k_d_len_9 : decode k_b_len 9 = .ok (.ishr, 1) := by decide +kernel
theorem k_d_len_10 : decode k_b_len 10 = .ok (.ireturn, 1) := by decide +kernel
abbrev k_b_lat : ByteArray := prog_23_method_154_code
def k_y_lat : MethodName := ⟨k_S, "isLatin1", "()Z"⟩
theorem k_d_lat_0 : decode k_b_lat 0 = .ok (.getstatic 38, 3) := by decide +kernel
theorem k_d_lat_3 : decode k_b_lat 3 = .ok (.ifCond .eq 14, 3) := by decide +kernel
theorem k_d_lat_6 : decode k_b_lat 6 = .ok (.aload_n 0, 1) := by decide +kernel
theorem k_d_lat_7 : decode k_b_lat 7 = .ok (.getfield 15, 3) := by decide +kernel
theorem k_d_lat_10 : decode k_b_lat 10 = .ok (.ifCond .ne 7, 3) := by decide +kernel
theorem k_d_lat_13 : decode k_b_lat 13 = .ok (.iconst 1, 1) := by decide +kernel
theorem k_d_lat_14 : decode k_b_lat 14 = .ok (.goto 4, 3) := by decide +kernel
theorem k_d_lat_17 : decode k_b_lat 17 = .ok (.iconst 0, 1) := by decide +kernel
theorem k_d_lat_18 : decode k_b_lat 18 = .ok (.ireturn, 1) := by decide +kernel
abbrev k_b_chk3 : ByteArray := prog_30_method_11_code
def k_y_chk3 : MethodName := ⟨k_P, "checkIndex", "(IILjava/util/function/BiFunction;)I"⟩
theorem k_d_chk3_0 : decode k_b_chk3 0 = .ok (.iload_n 0, 1) := by decide +kernel
theorem k_d_chk3_1 : decode k_b_chk3 1 = .ok (.ifCond .lt 8, 3) := by decide +kernel
theorem k_d_chk3_4 : decode k_b_chk3 4 = .ok (.iload_n 0, 1) := by decide +kernel
theorem k_d_chk3_5 : decode k_b_chk3 5 = .ok (.iload_n 1, 1) := by decide +kernel
theorem k_d_chk3_6 : decode k_b_chk3 6 = .ok (.if_icmp .lt 10, 3) := by decide +kernel
theorem k_d_chk3_9 : decode k_b_chk3 9 = .ok (.aload_n 2, 1) := by decide +kernel
theorem k_d_chk3_10 : decode k_b_chk3 10 = .ok (.iload_n 0, 1) := by decide +kernel
theorem k_d_chk3_11 : decode k_b_chk3 11 = .ok (.iload_n 1, 1) := by decide +kernel
theorem k_d_chk3_12 : decode k_b_chk3 12 = .ok (.invokestatic 95, 3) := by decide +kernel
theorem k_d_chk3_15 : decode k_b_chk3 15 = .ok (.athrow, 1) := by decide +kernel
theorem k_d_chk3_16 : decode k_b_chk3 16 = .ok (.iload_n 0, 1) := by decide +kernel
theorem k_d_chk3_17 : decode k_b_chk3 17 = .ok (.ireturn, 1) := by decide +kernel
abbrev k_b_chk : ByteArray := prog_23_method_155_code
def k_y_chk : MethodName := ⟨k_S, "checkIndex", "(II)V"⟩
theorem k_d_chk_0 : decode k_b_chk 0 = .ok (.iload_n 0, 1) := by decide +kernel
theorem k_d_chk_1 : decode k_b_chk 1 = .ok (.iload_n 1, 1) := by decide +kernel
theorem k_d_chk_2 : decode k_b_chk 2 = .ok (.getstatic 1053, 3) := by decide +kernel
theorem k_d_chk_5 : decode k_b_chk 5 = .ok (.invokestatic 1059, 3) := by decide +kernel
theorem k_d_chk_8 : decode k_b_chk 8 = .ok (.pop, 1) := by decide +kernel
theorem k_d_chk_9 : decode k_b_chk 9 = .ok (.return_, 1) := by decide +kernel
abbrev k_b_ch1 : ByteArray := prog_24_method_2_code
def k_y_ch1 : MethodName := ⟨k_L1, "charAt", "([BI)C"⟩
theorem k_d_ch1_0 : decode k_b_ch1 0 = .ok (.iload_n 1, 1) := by decide +kernel
theorem k_d_ch1_1 : decode k_b_ch1 1 = .ok (.aload_n 0, 1) := by decide +kernel
theorem k_d_ch1_2 : decode k_b_ch1 2 = .ok (.arraylength, 1) := by decide +kernel
theorem k_d_ch1_3 : decode k_b_ch1 3 = .ok (.invokestatic 9, 3) := by decide +kernel
theorem k_d_ch1_6 : decode k_b_ch1 6 = .ok (.aload_n 0, 1) := by decide +kernel
theorem k_d_ch1_7 : decode k_b_ch1 7 = .ok (.iload_n 1, 1) := by decide +kernel
theorem k_d_ch1_8 : decode k_b_ch1 8 = .ok (.baload, 1) := by decide +kernel
theorem k_d_ch1_9 : decode k_b_ch1 9 = .ok (.sipush 255, 3) := by decide +kernel
theorem k_d_ch1_12 : decode k_b_ch1 12 = .ok (.iand, 1) := by decide +kernel
theorem k_d_ch1_13 : decode k_b_ch1 13 = .ok (.i2c, 1) := by decide +kernel
theorem k_d_ch1_14 : decode k_b_ch1 14 = .ok (.ireturn, 1) := by decide +kernel
abbrev k_b_cha : ByteArray := prog_23_method_56_code
def k_y_cha : MethodName := ⟨k_S, "charAt", "(I)C"⟩
theorem k_d_cha_0 : decode k_b_cha 0 = .ok (.aload_n 0, 1) := by decide +kernel
theorem k_d_cha_1 : decode k_b_cha 1 = .ok (.invokevirtual 492, 3) := by decide +kernel
theorem k_d_cha_4 : decode k_b_cha 4 = .ok (.ifCond .eq 12, 3) := by decide +kernel
theorem k_d_cha_7 : decode k_b_cha 7 = .ok (.aload_n 0, 1) := by decide +kernel
theorem k_d_cha_8 : decode k_b_cha 8 = .ok (.getfield 9, 3) := by decide +kernel
theorem k_d_cha_11 : decode k_b_cha 11 = .ok (.iload_n 1, 1) := by decide +kernel
theorem k_d_cha_12 : decode k_b_cha 12 = .ok (.invokestatic 495, 3) := by decide +kernel
theorem k_d_cha_15 : decode k_b_cha 15 = .ok (.ireturn, 1) := by decide +kernel
theorem k_d_cha_16 : decode k_b_cha 16 = .ok (.aload_n 0, 1) := by decide +kernel
theorem k_d_cha_17 : decode k_b_cha 17 = .ok (.getfield 9, 3) := by decide +kernel
theorem k_d_cha_20 : decode k_b_cha 20 = .ok (.iload_n 1, 1) := by decide +kernel
theorem k_d_cha_21 : decode k_b_cha 21 = .ok (.invokestatic 498, 3) := by decide +kernel
theorem k_d_cha_24 : decode k_b_cha 24 = .ok (.ireturn, 1) := by decide +kernel
def k_A : Nat → Prop := fun _ => False
/-- ends with this answer, and nothing in the heap has changed -/
def k_Qi (r : Int32) : Array Value → State → Outcome → State → Prop := fun _ st oc t => oc = .returned (some (.int r)) ∧ t.heap = st.heap
def k_Qv : Array Value → State → Outcome → State → Prop := fun _ st oc t => oc = .returned none ∧ t.heap = st.heap
section k_cl
variable {p : Program} {l : Launch} {e : Env} {R : Room} {s : State} {m : MethodId} {args : Array Value} {below : List Frame} {meth : Method} {c : Code} {H : Heap} {locs : List Loc} {cells slots : Nat} {Q : State → Prop} {pc : Nat} {ls : Array Slot} {rest st0 : List Value} {a : Array Value}
theorem k_nil {L : List Loc} (h : ∀ q ∈ L, k_A q.base) : L = [] := by
  cases L with
  | nil => rfl
  | cons x r => exact (h x List.mem_cons_self).elim
theorem k_calli {r : Int32} (hr : va_Run p l e R s m args below meth c H locs cells slots 0 0 (F0 m pc ls st0) rest (k_Qi r a) k_A) (kk : W p l e R s m args below meth c H locs cells slots Q (F0 m (pc + 3) ls (.int r :: rest))) : W p l e R s m args below meth c H locs cells slots Q (F0 m pc ls st0) := by
  intro T hT X
  obtain ⟨v, st₀, t, T', L, h0, X', hL, e1, e2, ⟨hv, hh⟩, st⟩ := hr T hT X
  cases hv
  have hl := k_nil hL
  subst hl
  rw [List.append_nil] at X'
  obtain ⟨t2, a1, b1⟩ := kk T' (by rw [e1, hh, h0]) X'
  exact ⟨t2, st t2 a1, b1⟩
theorem k_callv (hr : va_Run p l e R s m args below meth c H locs cells slots 0 0 (F0 m pc ls st0) rest (k_Qv a) k_A) (kk : W p l e R s m args below meth c H locs cells slots Q (F0 m (pc + 3) ls rest)) : W p l e R s m args below meth c H locs cells slots Q (F0 m pc ls st0) := by
  intro T hT X
  obtain ⟨v, st₀, t, T', L, h0, X', hL, e1, e2, ⟨hv, hh⟩, st⟩ := hr T hT X
  cases hv
  have hl := k_nil hL
  subst hl
  rw [List.append_nil] at X'
  obtain ⟨t2, a1, b1⟩ := kk T' (by rw [e1, hh, h0]) X'
  exact ⟨t2, st t2 a1, b1⟩
end k_cl
def k_w_coder : List Cond := .code k_y_coder k_b_coder 1 (some .byte) :: [.fieldLink k_S 38 k_S "COMPACT_STRINGS" "Z", .fieldLink k_S 15 k_S "coder" "B"]
def k_w_lat : List Cond := .code k_y_lat k_b_lat 1 (some .boolean) :: [.fieldLink k_S 38 k_S "COMPACT_STRINGS" "Z", .fieldLink k_S 15 k_S "coder" "B"]
def k_w_len : List Cond := .code k_y_len k_b_len 1 (some .int) :: ([.fieldLink k_S 9 k_S "value" "[B", .methodLink k_S 335 k_y_coder, .instanceMethod k_y_coder, .selects k_S k_y_coder k_y_coder, .initialized k_S] ++ k_w_coder)
def k_w_chk3 : List Cond := .code k_y_chk3 k_b_chk3 3 (some .int) :: []
def k_w_chk : List Cond := .code k_y_chk k_b_chk 2 none :: ([.fieldLink k_S 1053 k_P "SIOOBE_FORMATTER" "Ljava/util/function/BiFunction;", .methodLink k_S 1059 k_y_chk3, .static k_y_chk3, .initialized k_P] ++ k_w_chk3)
def k_w_ch1 : List Cond := .code k_y_ch1 k_b_ch1 2 (some .char) :: ([.methodLink k_L1 9 k_y_chk, .static k_y_chk, .initialized k_S] ++ k_w_chk)
def k_w_cha : List Cond := .code k_y_cha k_b_cha 2 (some .char) :: ([.fieldLink k_S 9 k_S "value" "[B", .methodLink k_S 492 k_y_lat, .instanceMethod k_y_lat, .selects k_S k_y_lat k_y_lat, .initialized k_S, .methodLink k_S 495 k_y_ch1, .static k_y_ch1, .initialized k_L1] ++ (k_w_lat ++ k_w_ch1))
def k_rm (f lc : Nat) : Room := { frames := f, cells := 0, slots := 0, locals := lc }
abbrev k_co (a : Nat) (U : State) (H : Heap) : Prop := va_OF k_S "coder" "B" (.int 0) a k_A U H
abbrev k_cs (U : State) (H : Heap) : Prop := va_Z k_S "COMPACT_STRINGS" "Z" (.int 1) k_A U H
abbrev k_va (a v : Nat) (U : State) (H : Heap) : Prop := va_OF k_S "value" "[B" (.ref v) a k_A U H
abbrev k_fo (v : Value) (U : State) (H : Heap) : Prop := va_Z k_P "SIOOBE_FORMATTER" "Ljava/util/function/BiFunction;" v k_A U H
theorem k_Oc {o n d : String} {v : Value} {t : Nat} : ∀ (U : State) (g : JFrame) (mk : MethodId) (a : Array Value), va_OF o n d v t k_A U U.heap → va_OF o n d v t k_A (U.calling g mk a) (U.calling g mk a).heap := fun U g mk a h => va_OF.moved (u := U) (U := U.calling g mk a) (Vm.Alike.refl U.vm) h
theorem k_Zc {o n d : String} {v : Value} : ∀ (U : State) (g : JFrame) (mk : MethodId) (a : Array Value), va_Z o n d v k_A U U.heap → va_Z o n d v k_A (U.calling g mk a) (U.calling g mk a).heap := fun U g mk a h => va_Z.moved (u := U) (U := U.calling g mk a) (Vm.Alike.refl U.vm) h
theorem k_Tc {ty : FieldType} {t N : Nat} {f : Nat → Value} : ∀ (U : State) (g : JFrame) (mk : MethodId) (a : Array Value), va_T ty t N f k_A U U.heap → va_T ty t N f k_A (U.calling g mk a) (U.calling g mk a).heap := fun U g mk a h => va_T.moved (u := U) (U := U.calling g mk a) (Vm.Alike.refl U.vm) h
theorem k_kept {s U : State} {H : Heap} {A : Nat → Prop} {locs : List Loc} (hS : va_S A s.heap H locs) (hU : U.heap = H) : ∀ q : Nat, q < s.heap.size → ¬ A q → U.heap[q]? = s.heap[q]? := fun q h1 h2 => by rw [hU]; exact hS.2.1 q h1 h2
theorem k_Om {o n d : String} {v : Value} {t : Nat} {s U : State} {H : Heap} {A : Nat → Prop} {locs : List Loc} (h : va_OF o n d v t A s s.heap) (hS : va_S A s.heap H locs) (hU : U.heap = H) (hW : s.WarmedH U.vm) : va_OF o n d v t k_A U U.heap := (va_OF.moved hW.alike (h.kept (k_kept hS hU))).narrow (fun q hq => hq.elim)
theorem k_Zm {o n d : String} {v : Value} {s U : State} {H : Heap} {A : Nat → Prop} {locs : List Loc} (h : va_Z o n d v A s s.heap) (hS : va_S A s.heap H locs) (hU : U.heap = H) (hW : s.WarmedH U.vm) : va_Z o n d v k_A U U.heap := (va_Z.moved hW.alike (h.kept (k_kept hS hU))).narrow (fun q hq => hq.elim)
theorem k_Tm {ty : FieldType} {t N : Nat} {f : Nat → Value} {s U : State} {H : Heap} {A : Nat → Prop} {locs : List Loc} (h : va_T ty t N f A s s.heap) (hS : va_S A s.heap H locs) (hU : U.heap = H) (hW : s.WarmedH U.vm) : va_T ty t N f k_A U U.heap := (va_T.moved hW.alike (h.kept (k_kept hS hU))).narrow (fun q hq => hq.elim)
/-- a text's coder -/
theorem k_coder (l : Launch) (a : Nat) : Met l k_y_coder k_w_coder (k_rm 0 0) (va_Pc [.ref a] (fun U => k_co a U U.heap ∧ k_cs U U.heap)) (k_Qi 0) 0 0 k_A := by
  refine Met.ofW (cc := k_b_coder) (maxL := 1) (ret := (some .byte)) (by decide) rfl ?_
  intro p e s m args below meth c s₁ B hml hv
  obtain ⟨rfl, hO, hZ⟩ := hv
  have hx := B.exec
  have hb := B.bytes
  have hr := B.returns
  have hts := atoms_spec (ws := k_w_coder) B.pre
  have hown : s.vm.findClass k_S = some m.cls := findClass_of_methodNamed B.named
  have hlocks := B.notSynchronized
  have hS : va_S k_A s.heap s.heap [] := va_S.rf
  have hl := lv_entry ([.ref a]) (n := 1) (Nat.le_of_ble_eq_true rfl)
  rw [lg_entry_eq]
  generalize (lg_sl ([.ref a]) ++ List.replicate (1 - (lg_sl ([.ref a])).length) Slot.unset).toArray = ls at hl ⊢
  have hl : lv_has ls 1 [(0, .ref a)] := hl
  refine va_gets hx hb hZ hS hown (hts (.fieldLink k_S 38 k_S "COMPACT_STRINGS" "Z") (by decide +kernel)) (fun _ h9 => h9) k_d_coder_0 ?_
  refine lv_if_eq hx hb k_d_coder_3 (tgt := 13) rfl (fun h9 => absurd h9 (by decide)) (fun _ => ?_)
  refine lv_aload_n hx hb k_d_coder_6 rfl (lv_at hl 0 rfl) ?_
  refine vk_getf hx hb hO hS hown (hts (.fieldLink k_S 15 k_S "coder" "B") (by decide +kernel)) (fun _ h9 => h9) k_d_coder_7 ?_
  refine lv_goto hx hb k_d_coder_10 (tgt := 14) rfl ?_
  exact W.zret (v := 0) hx hb hr (by decide +kernel) (fun t ht hW => ⟨rfl, ht⟩) hS.2.2 k_d_coder_14
/-- is it Latin 1 -/
theorem k_lat (l : Launch) (a : Nat) : Met l k_y_lat k_w_lat (k_rm 0 0) (va_Pc [.ref a] (fun U => k_co a U U.heap ∧ k_cs U U.heap)) (k_Qi 1) 0 0 k_A := by
  refine Met.ofW (cc := k_b_lat) (maxL := 1) (ret := (some .boolean)) (by decide) rfl ?_
  intro p e s m args below meth c s₁ B hml hv
  obtain ⟨rfl, hO, hZ⟩ := hv
  have hx := B.exec
  have hb := B.bytes
  have hr := B.returns
  have hts := atoms_spec (ws := k_w_lat) B.pre
  have hown : s.vm.findClass k_S = some m.cls := findClass_of_methodNamed B.named
  have hlocks := B.notSynchronized
  have hS : va_S k_A s.heap s.heap [] := va_S.rf
  have hl := lv_entry ([.ref a]) (n := 1) (Nat.le_of_ble_eq_true rfl)
  rw [lg_entry_eq]
  generalize (lg_sl ([.ref a]) ++ List.replicate (1 - (lg_sl ([.ref a])).length) Slot.unset).toArray = ls at hl ⊢
  have hl : lv_has ls 1 [(0, .ref a)] := hl
  refine va_gets hx hb hZ hS hown (hts (.fieldLink k_S 38 k_S "COMPACT_STRINGS" "Z") (by decide +kernel)) (fun _ h9 => h9) k_d_lat_0 ?_
  refine lv_if_eq hx hb k_d_lat_3 (tgt := 17) rfl (fun h9 => absurd h9 (by decide)) (fun _ => ?_)
  refine lv_aload_n hx hb k_d_lat_6 rfl (lv_at hl 0 rfl) ?_
  refine vk_getf hx hb hO hS hown (hts (.fieldLink k_S 15 k_S "coder" "B") (by decide +kernel)) (fun _ h9 => h9) k_d_lat_7 ?_
  refine lv_if_ne hx hb k_d_lat_10 (tgt := 17) rfl (fun h9 => absurd rfl h9) (fun _ => ?_)
  refine lv_iconst hx hb k_d_lat_13 (v := 1) rfl ?_
  refine lv_goto hx hb k_d_lat_14 (tgt := 18) rfl ?_
  exact W.zret (v := 1) hx hb hr (by decide +kernel) (fun t ht hW => ⟨rfl, ht⟩) hS.2.2 k_d_lat_18
theorem k_sl1 {i n : Int32} {v : Value} (hv : v.category = 1) : (lg_sl [.int i, .int n, v]).length = 3 := by
  unfold lg_sl
  rw [List.flatMap_cons, List.flatMap_cons, List.flatMap_cons, hv]
  rfl
/-- the look at an index that fits -/
theorem k_chk3 (l : Launch) (i n : Int32) (v : Value) (hv1 : v.category = 1) (hi : ¬ i < 0) (hn : i < n) : Met l k_y_chk3 k_w_chk3 (k_rm 0 0) (va_Pc [.int i, .int n, v] (fun _ => True)) (k_Qi i) 0 0 k_A := by
  refine Met.ofW (cc := k_b_chk3) (maxL := 3) (ret := (some .int)) (by decide) rfl ?_
  intro p e s m args below meth c s₁ B hml hv
  obtain ⟨rfl, -⟩ := hv
  have hx := B.exec
  have hb := B.bytes
  have hr := B.returns
  have hts := atoms_spec (ws := k_w_chk3) B.pre
  have hown : s.vm.findClass k_P = some m.cls := findClass_of_methodNamed B.named
  have hlocks := B.notSynchronized
  have hS : va_S k_A s.heap s.heap [] := va_S.rf
  have hl := lv_entry ([.int i, .int n, v]) (n := 3) (by rw [k_sl1 hv1]; exact Nat.le_refl _)
  rw [lg_entry_eq]
  generalize (lg_sl ([.int i, .int n, v]) ++ List.replicate (3 - (lg_sl ([.int i, .int n, v])).length) Slot.unset).toArray = ls at hl ⊢
  have hl : lv_has ls 3 (lv_args 0 [.int i, .int n, v]) := hl
  refine lv_iload_n hx hb k_d_chk3_0 rfl (lv_at hl 0 rfl) ?_
  refine lv_if_lt hx hb k_d_chk3_1 (tgt := 9) rfl (fun h9 => absurd h9 hi) (fun _ => ?_)
  refine lv_iload_n hx hb k_d_chk3_4 rfl (lv_at hl 0 rfl) ?_
  refine lv_iload_n hx hb k_d_chk3_5 rfl (lv_at hl 1 rfl) ?_
  refine lv_icmp_lt hx hb k_d_chk3_6 (tgt := 16) rfl (fun _ => ?_) (fun h9 => absurd hn h9)
  refine lv_iload_n hx hb k_d_chk3_16 rfl (lv_at hl 0 rfl) ?_
  exact W.iret (v := i) hx hb hr (fun t ht hW => ⟨rfl, ht⟩) hS.2.2 k_d_chk3_17
theorem k_Oo {n : String} {t : Nat} : ∀ (U : State) (g : JFrame) (mk : MethodId) (a : Array Value), va_O n t k_A U U.heap → va_O n t k_A (U.calling g mk a) (U.calling g mk a).heap := fun U g mk a h => va_O.moved (u := U) (U := U.calling g mk a) (Vm.Alike.refl U.vm) h
theorem k_om {n : String} {t : Nat} {s U : State} {H : Heap} {A : Nat → Prop} {locs : List Loc} (h : va_O n t A s s.heap) (hS : va_S A s.heap H locs) (hU : U.heap = H) (hW : s.WarmedH U.vm) : va_O n t k_A U U.heap := (va_O.moved hW.alike (h.kept (k_kept hS hU))).narrow (fun q hq => hq.elim)
theorem k_rcv {n : String} {t : Nat} {s : State} {H : Heap} {A : Nat → Prop} {locs : List Loc} (h : va_O n t A s s.heap) (hS : va_S A s.heap H locs) : ∃ cell : Cell, H[t]? = some cell ∧ cell.vm.isStatics = false ∧ s.vm.findClass n = some cell.cls := by
  obtain ⟨cell, h1, h2, h3, -⟩ := h.kept hS.2.1
  exact ⟨cell, h1, h2, h3⟩
theorem k_shr (x : Int32) : x >>> ((0 : Int32) &&& 31) = x := by
  rw [show ((0 : Int32) &&& 31) = 0 from by decide]
  simp
/-- a text's length -/
theorem k_len (l : Launch) (a v n : Nat) {f : Nat → Value} : Met l k_y_len k_w_len (k_rm 1 20) (va_Pc [.ref a] (fun U => va_O k_S a k_A U U.heap ∧ k_co a U U.heap ∧ k_cs U U.heap ∧ k_va a v U U.heap ∧ va_T .byte v n f k_A U U.heap)) (k_Qi (Int32.ofNat n)) 0 0 k_A := by
  refine Met.ofW (cc := k_b_len) (maxL := 1) (ret := (some .int)) (by decide) rfl ?_
  intro p e s m args below meth c s₁ B hml hv
  obtain ⟨rfl, hC, hO, hZ, hV, hT⟩ := hv
  have hx := B.exec
  have hb := B.bytes
  have hr := B.returns
  have hts := atoms_spec (ws := k_w_len) B.pre
  have hown : s.vm.findClass k_S = some m.cls := findClass_of_methodNamed B.named
  have hlocks := B.notSynchronized
  have hS : va_S k_A s.heap s.heap [] := va_S.rf
  have hl := lv_entry ([.ref a]) (n := 1) (Nat.le_of_ble_eq_true rfl)
  rw [lg_entry_eq]
  generalize (lg_sl ([.ref a]) ++ List.replicate (1 - (lg_sl ([.ref a])).length) Slot.unset).toArray = ls at hl ⊢
  have hl : lv_has ls 1 [(0, .ref a)] := hl
  refine lv_aload_n hx hb k_d_len_0 rfl (lv_at hl 0 rfl) ?_
  refine vk_getf hx hb hV hS hown (hts (.fieldLink k_S 9 k_S "value" "[B") (by decide +kernel)) (fun _ h9 => h9) k_d_len_1 ?_
  refine va_tlen hx hb hT hS rfl k_d_len_4 ?_
  refine lv_aload_n hx hb k_d_len_5 rfl (lv_at hl 0 rfl) ?_
  refine k_calli (va_runV (As := []) (rest := [.int (Int32.ofNat n)]) ⟨hx, hb, hml, hown, hts⟩ (k_coder l a) (cwV (index := 335) 0 hts (goodIn_of _ (by decide +kernel)) rfl rfl rfl ⟨rfl, by decide, by decide, by decide +kernel⟩ ⟨by decide, by decide⟩) ⟨(fun a U g mk h => ⟨h.1, k_Oc U g mk a h.2.1, k_Zc U g mk a h.2.2⟩), k_rcv hC hS, (fun U hU hW => ⟨rfl, k_Om hO hS hU hW, k_Zm hZ hS hU hW⟩)⟩ rfl rfl hl.1 rfl (Nat.le_of_ble_eq_true rfl) k_d_len_6 ⟨Nat.le_refl _, Nat.le_refl _⟩) ?_
  refine lv_ishr hx hb k_d_len_9 ?_
  rw [k_shr]
  exact W.iret hx hb hr (fun t ht hW => ⟨rfl, ht⟩) hS.2.2 k_d_len_10
/-- the look at an index of a text that fits -/
theorem k_chk (l : Launch) (i n : Int32) (v : Value) (hv1 : v.category = 1) (hi : ¬ i < 0) (hn : i < n) : Met l k_y_chk k_w_chk (k_rm 1 22) (va_Pc [.int i, .int n] (fun U => k_fo v U U.heap)) k_Qv 0 0 k_A := by
  refine Met.ofW (cc := k_b_chk) (maxL := 2) (ret := none) (by decide) rfl ?_
  intro p e s m args below meth c s₁ B hml hv
  obtain ⟨rfl, hZ⟩ := hv
  have hx := B.exec
  have hb := B.bytes
  have hr := B.returns
  have hts := atoms_spec (ws := k_w_chk) B.pre
  have hown : s.vm.findClass k_S = some m.cls := findClass_of_methodNamed B.named
  have hlocks := B.notSynchronized
  have hS : va_S k_A s.heap s.heap [] := va_S.rf
  have hl := lv_entry ([.int i, .int n]) (n := 2) (Nat.le_of_ble_eq_true rfl)
  rw [lg_entry_eq]
  generalize (lg_sl ([.int i, .int n]) ++ List.replicate (2 - (lg_sl ([.int i, .int n])).length) Slot.unset).toArray = ls at hl ⊢
  have hl : lv_has ls 2 [(0, .int i), (1, .int n)] := hl
  refine lv_iload_n hx hb k_d_chk_0 rfl (lv_at hl 0 rfl) ?_
  refine lv_iload_n hx hb k_d_chk_1 rfl (lv_at hl 1 rfl) ?_
  refine va_gets hx hb hZ hS hown (hts (.fieldLink k_S 1053 k_P "SIOOBE_FORMATTER" "Ljava/util/function/BiFunction;") (by decide +kernel)) (fun _ h9 => h9) k_d_chk_2 ?_
  refine k_calli (va_runS (As := [.int i, .int n, v]) (rest := []) ⟨hx, hb, hml, hown, hts⟩ (k_chk3 l i n v hv1 hi hn) (va_cwS (index := 1059) 3 hts (goodIn_of _ (by decide +kernel)) rfl rfl rfl ⟨by decide, by decide, by decide +kernel⟩ ⟨by decide, by decide⟩) ⟨fun a U g mk h => ⟨h.1, trivial⟩, fun U hU hW => ⟨rfl, trivial⟩⟩ rfl rfl hl.1 rfl (Nat.le_of_ble_eq_true rfl) k_d_chk_5 ⟨Nat.le_refl _, Nat.le_refl _⟩) ?_
  refine lv_pop hx hb k_d_chk_8 rfl ?_
  exact W.vret hx hb hr (fun t ht hW => ⟨rfl, ht⟩) hS.2.2 k_d_chk_9
theorem k_lt {n : Nat} {i : Int32} (hn : n < 2 ^ 31) (h : vp_in i n) : i < Int32.ofNat n := by
  have h1 : ¬ i < 0 := fun z => h (Or.inl z)
  have h2 : i.toNatClampNeg < n := Nat.not_le.mp fun z => h (Or.inr z)
  have h3 : (0 : Int) ≤ i.toInt := by
    have := Int32.not_lt.mp h1
    simpa using Int32.le_iff_toInt_le.mp this
  have h4 : i.toInt.toNat < n := h2
  rw [Int32.lt_iff_toInt_lt, Int32.toInt_ofNat_small hn]
  omega
/-- a byte of a text -/
theorem k_ch1 (l : Launch) (v n : Nat) (hn31 : n < 2 ^ 31) (i b : Int32) (w : Value) (hw1 : w.category = 1) (hi : vp_in i n) {f : Nat → Value} (hf : f i.toNatClampNeg = .int b) (hb1 : ((b &&& 255).toUInt32 % 65536).toInt32 = b) (hb2 : narrow .char (.int b) = .int b) : Met l k_y_ch1 k_w_ch1 (k_rm 2 43) (va_Pc [.ref v, .int i] (fun U => va_T .byte v n f k_A U U.heap ∧ k_fo w U U.heap)) (k_Qi b) 0 0 k_A := by
  refine Met.ofW (cc := k_b_ch1) (maxL := 2) (ret := (some .char)) (by decide) rfl ?_
  intro p e s m args below meth c s₁ B hml hv
  obtain ⟨rfl, hT, hZ⟩ := hv
  have hx := B.exec
  have hb := B.bytes
  have hr := B.returns
  have hts := atoms_spec (ws := k_w_ch1) B.pre
  have hown : s.vm.findClass k_L1 = some m.cls := findClass_of_methodNamed B.named
  have hlocks := B.notSynchronized
  have hS : va_S k_A s.heap s.heap [] := va_S.rf
  have hl := lv_entry ([.ref v, .int i]) (n := 2) (Nat.le_of_ble_eq_true rfl)
  rw [lg_entry_eq]
  generalize (lg_sl ([.ref v, .int i]) ++ List.replicate (2 - (lg_sl ([.ref v, .int i])).length) Slot.unset).toArray = ls at hl ⊢
  have hl : lv_has ls 2 [(0, .ref v), (1, .int i)] := hl
  have hi0 : ¬ i < 0 := fun h => hi (Or.inl h)
  have hin : i < Int32.ofNat n := k_lt hn31 hi
  refine lv_iload_n hx hb k_d_ch1_0 rfl (lv_at hl 1 rfl) ?_
  refine lv_aload_n hx hb k_d_ch1_1 rfl (lv_at hl 0 rfl) ?_
  refine va_tlen hx hb hT hS rfl k_d_ch1_2 ?_
  refine k_callv (va_runS (As := [.int i, .int (Int32.ofNat n)]) (rest := []) ⟨hx, hb, hml, hown, hts⟩ (k_chk l i (Int32.ofNat n) w hw1 hi0 hin) (va_cwS (index := 9) 2 hts (goodIn_of _ (by decide +kernel)) rfl rfl rfl ⟨by decide, by decide, by decide +kernel⟩ ⟨by decide, by decide⟩) ⟨fun a U g mk h => ⟨h.1, k_Zc U g mk a h.2⟩, fun U hU hW => ⟨rfl, k_Zm hZ hS hU hW⟩⟩ rfl rfl hl.1 rfl (Nat.le_of_ble_eq_true rfl) k_d_ch1_3 ⟨Nat.le_refl _, Nat.le_refl _⟩) ?_
  refine lv_aload_n hx hb k_d_ch1_6 rfl (lv_at hl 0 rfl) ?_
  refine lv_iload_n hx hb k_d_ch1_7 rfl (lv_at hl 1 rfl) ?_
  refine va_tb hx hb hT hS hi hf k_d_ch1_8 ?_
  refine lv_sipush hx hb k_d_ch1_9 (v := 255) (by decide) ?_
  refine lv_iand hx hb k_d_ch1_12 ?_
  refine lv_i2c hx hb k_d_ch1_13 hb1 ?_
  exact W.zret hx hb hr hb2 (fun t ht hW => ⟨rfl, ht⟩) hS.2.2 k_d_ch1_14
theorem k_cha (l : Launch) (a v n : Nat) (hn31 : n < 2 ^ 31) (i b : Int32) (w : Value) (hw1 : w.category = 1) (hi : vp_in i n) {f : Nat → Value} (hf : f i.toNatClampNeg = .int b) (hb1 : ((b &&& 255).toUInt32 % 65536).toInt32 = b) (hb2 : narrow .char (.int b) = .int b) : Met l k_y_cha k_w_cha (k_rm 3 64) (va_Pc [.ref a, .int i] (fun U => va_O k_S a k_A U U.heap ∧ k_co a U U.heap ∧ k_cs U U.heap ∧ k_va a v U U.heap ∧ va_T .byte v n f k_A U U.heap ∧ k_fo w U U.heap)) (k_Qi b) 0 0 k_A := by
  refine Met.ofW (cc := k_b_cha) (maxL := 2) (ret := (some .char)) (by decide) rfl ?_
  intro p e s m args below meth c s₁ B hml hv
  obtain ⟨rfl, hC, hO, hZ, hV, hT, hF⟩ := hv
  have hx := B.exec
  have hb := B.bytes
  have hr := B.returns
  have hts := atoms_spec (ws := k_w_cha) B.pre
  have hown : s.vm.findClass k_S = some m.cls := findClass_of_methodNamed B.named
  have hlocks := B.notSynchronized
  have hS : va_S k_A s.heap s.heap [] := va_S.rf
  have hl := lv_entry ([.ref a, .int i]) (n := 2) (Nat.le_of_ble_eq_true rfl)
  rw [lg_entry_eq]
  generalize (lg_sl ([.ref a, .int i]) ++ List.replicate (2 - (lg_sl ([.ref a, .int i])).length) Slot.unset).toArray = ls at hl ⊢
  have hl : lv_has ls 2 [(0, .ref a), (1, .int i)] := hl
  refine lv_aload_n hx hb k_d_cha_0 rfl (lv_at hl 0 rfl) ?_
  refine k_calli (va_runV (As := []) (rest := []) ⟨hx, hb, hml, hown, hts⟩ (k_lat l a) (cwV (index := 492) 0 hts (goodIn_of _ (by decide +kernel)) rfl rfl rfl ⟨rfl, by decide, by decide, by decide +kernel⟩ ⟨by decide, by decide⟩) ⟨(fun a U g mk h => ⟨h.1, k_Oc U g mk a h.2.1, k_Zc U g mk a h.2.2⟩), k_rcv hC hS, (fun U hU hW => ⟨rfl, k_Om hO hS hU hW, k_Zm hZ hS hU hW⟩)⟩ rfl rfl hl.1 rfl (Nat.le_of_ble_eq_true rfl) k_d_cha_1 ⟨Nat.le_refl _, Nat.le_refl _⟩) ?_
  refine lv_if_eq hx hb k_d_cha_4 (tgt := 16) rfl (fun h9 => absurd h9 (by decide)) (fun _ => ?_)
  refine lv_aload_n hx hb k_d_cha_7 rfl (lv_at hl 0 rfl) ?_
  refine vk_getf hx hb hV hS hown (hts (.fieldLink k_S 9 k_S "value" "[B") (by decide +kernel)) (fun _ h9 => h9) k_d_cha_8 ?_
  refine lv_iload_n hx hb k_d_cha_11 rfl (lv_at hl 1 rfl) ?_
  refine k_calli (va_runS (As := [.ref v, .int i]) (rest := []) ⟨hx, hb, hml, hown, hts⟩ (k_ch1 l v n hn31 i b w hw1 hi hf hb1 hb2) (va_cwS (index := 495) 2 hts (goodIn_of _ (by decide +kernel)) rfl rfl rfl ⟨by decide, by decide, by decide +kernel⟩ ⟨by decide, by decide⟩) ⟨fun a U g mk h => ⟨h.1, k_Tc U g mk a h.2.1, k_Zc U g mk a h.2.2⟩, fun U hU hW => ⟨rfl, k_Tm hT hS hU hW, k_Zm hF hS hU hW⟩⟩ rfl rfl hl.1 rfl (Nat.le_of_ble_eq_true rfl) k_d_cha_12 ⟨Nat.le_refl _, Nat.le_refl _⟩) ?_
  exact W.zret hx hb hr hb2 (fun t ht hW => ⟨rfl, ht⟩) hS.2.2 k_d_cha_15
section k_run
variable {p : Program} {l : Launch} {e : Env} {R : Room} {s : State} {m : MethodId} {args : Array Value} {below : List Frame} {meth : Method} {c : Code} {H : Heap} {locs : List Loc} {cells slots : Nat}
variable {y : MethodName} {bytes cc : ByteArray} {maxL index n pc : Nat} {ret : Option FieldType} {ws ws' : List Cond} {rm : Room} {Pc : Array Value → State → Prop} {Qc : Array Value → State → Outcome → State → Prop} {free : Addr → Prop} {Ts : List Cond} {own C : String} {b : Addr} {As rest : List Value} {ls : Array Slot}
/-- a call of a text's method, whatever lies below on the stack -/
theorem k_runV (hx : p.tables.exec = Jvm.exec) (hb : c.code = cc) (hml : c.maxLocals = ls.size) (ho : s.vm.findClass own = some m.cls) (ht : ∀ w ∈ Ts, w.before args s = true) (hM : Met l y ws rm Pc Qc 0 0 free) (hG : GoodIn Ts ws) (hw : ws = Cond.code y bytes maxL ret :: ws') (hrc : rm.cells = 0) (hrs : rm.slots = 0)
    (hy : y.cls ≠ "java/lang/invoke/MethodHandle" ∧ y.cls ≠ "java/lang/invoke/VarHandle") (hd : (parseMethodDescriptor y.desc).map (fun d => d.parameters.length) = some n) (hl : (Cond.methodLink own index y).before args s = true) (hin : (Cond.instanceMethod y).before args s = true) (hse : (Cond.selects C y y).before args s = true) (hini : (Cond.initialized y.cls).before args s = true)
    (hp : PreV s H C b Pc As) (hn : As.length = n) (hfr : rm.frames + 1 ≤ R.frames) (hlo : (rest.map fun v => v.category).sum + (maxL + 11) + rm.locals ≤ R.locals) (hc : cells ≤ R.cells) (hs : slots ≤ R.slots) (hdg : decode cc pc = .ok (.invokevirtual index, 3)) :
    va_Run p l e R s m args below meth c H locs cells slots 0 0 (F0 m pc ls (As.reverse ++ .ref b :: rest)) rest (Qc (Value.ref b :: As).toArray) free := by
  have hcw : Cond.code y bytes maxL ret ∈ ws := by rw [hw]; exact List.mem_cons_self
  have hK : Back l R p e below s args y 3 ((rest.map fun v => v.category).sum) (PreOf R 0 0 Pc) (PostOf Qc 0 0 free) :=
    back_of (bytes := bytes) (maxL := maxL) (ret := ret) hM hp.1 hrc hrs hfr hlo (pay_in ht hG) hcw (fun a' U hW => word_at hW (Or.inl (by first | rfl | simp [Cond.onTables, Cond.keeps, Cond.steady])) hini)
  obtain ⟨-, ⟨cellB, hcB, hoB, hclB⟩, hPc⟩ := hp
  have hcode : (Cond.code y bytes maxL ret).before args s = true := ht _ (hG _ hcw).1
  have hlen : ∀ sig, parseMethodDescriptor y.desc = some sig → As.length = sig.parameters.length := fun sig h => by
    rw [h] at hd
    exact hn.trans (Option.some.inj hd).symm
  intro T hT X
  obtain ⟨v, vm₁, ⟨U', l2, c2, s2⟩, hW₁, X', ⟨g', mk, t, L, e1, e2, hq, h1, hL, h2, h3⟩, st⟩ := callV X hx (C := C) (bytes := bytes) (maxL := maxL) (ret := ret) ho hl hin hse hcode hy hK (by rw [hT]; exact hcB) hoB hclB (g := F0 m pc ls (As.reverse ++ .ref b :: rest)) rfl (by rw [hml]) (argsL := As) (rest := rest) hlen rfl (by show 2 * 0 + _ ≤ _; omega) (by rw [hb]; exact hdg)
    (fun vm₁ hW₁ => ⟨hc, hs, hPc (T.setVm vm₁) hT hW₁⟩)
  dsimp only [Pt.U, Pt.locs, Pt.cells, Pt.slots] at X' e1 e2 h1 h2 h3 st
  subst h1; subst h2; subst h3
  exact ⟨v, (T.setVm vm₁).calling g' mk (Value.ref b :: As).toArray, t, U', L, hT, X', hL, e1, e2, hq, st⟩
end k_run
end -- [11r.jdk]
section -- [11s.text]
/-! Part 11s: a text's length and bytes, the greater one of two floats, as rows of the machine. -/
theorem k_gi {ws : List Cond} (h : ∀ w ∈ ws, w ∈ q_G_js) (h2 : ws.all goodWord = true) : GoodIn q_GL2 ws := fun w hw => ⟨q_g1 (q_G_js_m (h w hw)), good_of_word (List.all_eq_true.mp h2 w hw)⟩
theorem k_jl : ∀ w ∈ k_w_len, w ∈ q_G_js := by decide +kernel
theorem k_jc : ∀ w ∈ k_w_cha, w ∈ q_G_js := by decide +kernel
theorem k_jx : ∀ w ∈ ([.instanceMethod k_y_len, .selects k_S k_y_len k_y_len, .instanceMethod k_y_cha, .selects k_S k_y_cha k_y_cha, .initialized k_S] : List Cond), w ∈ q_G_js := by decide +kernel
theorem k_ts {args : Array Value} {s : State} (hts : ∀ w ∈ q_GL2, w.before args s = true) {w : Cond} (h : w ∈ q_G_js) : w.before args s = true := hts _ (q_g1 (q_G_js_m h))
theorem k_sLn : ∀ i, i < 7 → q_sL.getD i 0 = (q_sb i).length := by decide +kernel
theorem k_sL31 : ∀ i, i < 7 → q_sL.getD i 0 < 2 ^ 31 := by decide +kernel
theorem k_sBn : ∀ i, i < 7 → q_sB.getD i [] = (q_sb i).map Int32.ofInt := by decide +kernel
theorem k_chr : ∀ i, i < 7 → ∀ c ∈ q_sb i, ((Int32.ofInt c &&& 255).toUInt32 % 65536).toInt32 = Int32.ofInt c ∧ narrow .char (.int (Int32.ofInt c)) = .int (Int32.ofInt c) := by decide +kernel
theorem k_mx1 : ∀ w ∈ ([.static q_mxf, .code q_mxf prog_20_method_67_code 2 (some .float)] : List Cond), w ∈ q_G_js := by decide +kernel
theorem k_mx2 : Cond.initialized "java/lang/Math" ∈ q_G_mc := by decide +kernel
theorem q_txl {p : Program} {l : Launch} {e : Env} {R : Room} {s : State} {m : MethodId} {args : Array Value} {below : List Frame} {meth : Method} {c : Code} {Q : State → Prop} {H : Heap} {locs : List Loc} {cl sl pc idx i : Nat} {ls : Array Slot} {rest : List Value} {cc : ByteArray} {bs : Nat → Nat} {base : Nat} (hexec : p.tables.exec = Jvm.exec) (hb : c.code = cc) (hml : c.maxLocals = ls.size) (hown : s.vm.findClass (q_on (q_cn i)) = some m.cls) (hts : ∀ w ∈ q_GL2, w.before args s = true) (kS : ∃ adV, vk_S 7 q_sL q_sB (fun i => bs (3 + i)) adV (q_A base) s s.heap) (kC : va_Z "java/lang/String" "COMPACT_STRINGS" "Z" (.int 1) (q_A base) s s.heap) (hS : va_S (q_A base) s.heap H locs) {i9 : Nat} (hi9 : i9 < 7) (hlink : (Cond.methodLink (q_on (q_cn i)) idx q_sln).before args s = true) (hfr : 5 ≤ R.frames) (hlc : (rest.map fun v => v.category).sum + 150 ≤ R.locals) (hc : cl ≤ R.cells) (hs : sl ≤ R.slots) (hdg : decode cc pc = .ok (.invokevirtual idx, 3))
    (kk : W p l e R s m args below meth c H locs cl sl Q (F0 m (pc + 3) ls (.int (Int32.ofInt (Int.ofNat (q_sb i9).length)) :: rest))) : W p l e R s m args below meth c H locs cl sl Q (F0 m pc ls (.ref (bs (3 + i9)) :: rest)) := by
  obtain ⟨adV, kS⟩ := kS
  obtain ⟨hC, hO, hV, hT⟩ := kS.1 i9 hi9
  have M := k_len l (bs (3 + i9)) (adV i9) (q_sL.getD i9 0) (f := fun j => .int ((q_sB.getD i9 []).getD j 0))
  have e : Int32.ofNat (q_sL.getD i9 0) = Int32.ofInt (Int.ofNat (q_sb i9).length) := by rw [k_sLn i9 hi9]; rfl
  refine k_calli (k_runV (As := []) (rest := rest) hexec hb hml hown (Ts := q_GL2) (C := k_S) (n := 0) hts M (k_gi k_jl (by decide +kernel)) rfl rfl rfl ⟨by decide, by decide⟩ (by decide +kernel) hlink (k_ts hts (k_jx _ (by simp))) (k_ts hts (k_jx _ (by simp))) (k_ts hts (k_jx _ (by simp [k_y_len])))
    ⟨fun a U g mk h => ⟨h.1, k_Oo U g mk a h.2.1, k_Oc U g mk a h.2.2.1, k_Zc U g mk a h.2.2.2.1, k_Oc U g mk a h.2.2.2.2.1, k_Tc U g mk a h.2.2.2.2.2⟩, k_rcv hC hS, fun U hU hW => ⟨rfl, k_om hC hS hU hW, k_Om hO hS hU hW, k_Zm kC hS hU hW, k_Om hV hS hU hW, k_Tm hT hS hU hW⟩⟩ rfl (by show 1 + 1 ≤ _; omega) (by show _ + (1 + 11) + 20 ≤ _; omega) hc hs hdg) ?_
  rw [e]
  exact kk
theorem q_txc {p : Program} {l : Launch} {e : Env} {R : Room} {s : State} {m : MethodId} {args : Array Value} {below : List Frame} {meth : Method} {c : Code} {Q : State → Prop} {H : Heap} {locs : List Loc} {cl sl pc idx i : Nat} {ls : Array Slot} {rest : List Value} {cc : ByteArray} {bs : Nat → Nat} {base : Nat} (hexec : p.tables.exec = Jvm.exec) (hb : c.code = cc) (hml : c.maxLocals = ls.size) (hown : s.vm.findClass (q_on (q_cn i)) = some m.cls) (hts : ∀ w ∈ q_GL2, w.before args s = true) (kS : ∃ adV, vk_S 7 q_sL q_sB (fun i => bs (3 + i)) adV (q_A base) s s.heap) (kC : va_Z "java/lang/String" "COMPACT_STRINGS" "Z" (.int 1) (q_A base) s s.heap) (kFo : ∃ v9 : Value, v9.category = 1 ∧ va_Z "jdk/internal/util/Preconditions" "SIOOBE_FORMATTER" "Ljava/util/function/BiFunction;" v9 (q_A base) s s.heap) (hS : va_S (q_A base) s.heap H locs) {i9 : Nat} {j9 : Int32} {c9 : Int} (hi9 : i9 < 7) (hj9 : vp_in j9 (q_sb i9).length) (hc9 : (q_sb i9)[j9.toNatClampNeg]? = some c9) (hlink : (Cond.methodLink (q_on (q_cn i)) idx q_sca).before args s = true) (hfr : 5 ≤ R.frames) (hlc : (rest.map fun v => v.category).sum + 150 ≤ R.locals) (hc : cl ≤ R.cells) (hs : sl ≤ R.slots) (hdg : decode cc pc = .ok (.invokevirtual idx, 3))
    (kk : W p l e R s m args below meth c H locs cl sl Q (F0 m (pc + 3) ls (.int (Int32.ofInt c9) :: rest))) : W p l e R s m args below meth c H locs cl sl Q (F0 m pc ls (.int j9 :: .ref (bs (3 + i9)) :: rest)) := by
  obtain ⟨adV, kS⟩ := kS
  obtain ⟨w9, hw1, hF⟩ := kFo
  obtain ⟨hC, hO, hV, hT⟩ := kS.1 i9 hi9
  obtain ⟨b1, b2⟩ := k_chr i9 hi9 c9 (List.mem_of_getElem? hc9)
  have M := k_cha l (bs (3 + i9)) (adV i9) (q_sL.getD i9 0) (k_sL31 i9 hi9) j9 (Int32.ofInt c9) w9 hw1 (by rw [k_sLn i9 hi9]; exact hj9) (f := fun j => .int ((q_sB.getD i9 []).getD j 0)) (by
    show Value.int ((q_sB.getD i9 []).getD j9.toNatClampNeg 0) = _
    rw [k_sBn i9 hi9, List.getD_eq_getElem?_getD, List.getElem?_map, hc9]; rfl) b1 b2
  exact k_calli (k_runV (As := [.int j9]) (rest := rest) hexec hb hml hown (Ts := q_GL2) (C := k_S) (n := 1) hts M (k_gi k_jc (by decide +kernel)) rfl rfl rfl ⟨by decide, by decide⟩ (by decide +kernel) hlink (k_ts hts (k_jx _ (by simp))) (k_ts hts (k_jx _ (by simp))) (k_ts hts (k_jx _ (by simp [k_y_cha])))
    ⟨fun a U g mk h => ⟨h.1, k_Oo U g mk a h.2.1, k_Oc U g mk a h.2.2.1, k_Zc U g mk a h.2.2.2.1, k_Oc U g mk a h.2.2.2.2.1, k_Tc U g mk a h.2.2.2.2.2.1, k_Zc U g mk a h.2.2.2.2.2.2⟩, k_rcv hC hS, fun U hU hW => ⟨rfl, k_om hC hS hU hW, k_Om hO hS hU hW, k_Zm kC hS hU hW, k_Om hV hS hU hW, k_Tm hT hS hU hW, k_Zm hF hS hU hW⟩⟩ rfl (by show 3 + 1 ≤ _; omega) (by show _ + (2 + 11) + 64 ≤ _; omega) hc hs hdg) kk
theorem q_fmr {p : Program} {l : Launch} {e : Env} {R : Room} {s : State} {m : MethodId} {args : Array Value} {below : List Frame} {meth : Method} {c : Code} {Q : State → Prop} {H : Heap} {locs : List Loc} {cl sl pc idx i : Nat} {ls : Array Slot} {rest : List Value} {cc : ByteArray} {bs : Nat → Nat} {base : Nat} {a b : UInt32} (n1 : q_n32 a = true) (n2 : q_n32 b = true) (hexec : p.tables.exec = Jvm.exec) (hb : c.code = cc) (hml : c.maxLocals = ls.size) (hown : s.vm.findClass (q_on (q_cn i)) = some m.cls) (hts : ∀ w ∈ q_GL2, w.before args s = true) (kNz : va_Z "java/lang/Math" "negativeZeroFloatBits" "J" (.long (-2147483648)) (q_A base) s s.heap) (hS : va_S (q_A base) s.heap H locs) (hlink : (Cond.methodLink (q_on (q_cn i)) idx q_mxf).before args s = true) (hfr : 5 ≤ R.frames) (hlc : (rest.map fun v => v.category).sum + 150 ≤ R.locals) (hc : cl ≤ R.cells) (hs : sl ≤ R.slots) (hdg : decode cc pc = .ok (.invokestatic idx, 3))
    (kk : W p l e R s m args below meth c H locs cl sl Q (F0 m (pc + 3) ls (.float (q_fmx a b) :: rest))) : W p l e R s m args below meth c H locs cl sl Q (F0 m pc ls (.float b :: .float a :: rest)) := by
  exact k_mxw hexec hb hml hown hlink (k_ts hts (k_mx1 _ (by simp))) (hts _ (q_g1 (q_G_mc_m k_mx2))) (k_ts hts (k_mx1 _ (List.mem_cons_of_mem _ List.mem_cons_self))) n1 n2 (by omega) (by omega) hdg kk
end -- [11s.text]
