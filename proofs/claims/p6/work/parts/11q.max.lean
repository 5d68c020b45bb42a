/-! Part 11q: Math.max of two floats that are numbers: the machine answers it by an entry of its own. -/
theorem k_no {x : UInt32} (h : q_n32 x = true) : FP.fIsNaN x = false := by
  have h1 : x &&& 0x7fffffff ≤ 0x7f800000 := of_decide_eq_true h
  rw [UInt32.le_iff_toNat_le, UInt32.toNat_and, show (0x7fffffff : UInt32).toNat = 2 ^ 31 - 1 by decide, show (0x7f800000 : UInt32).toNat = 2139095040 by decide, Nat.and_two_pow_sub_one_eq_mod] at h1
  show FP.Core.fIsNaN x = false
  cases c : FP.Core.fIsNaN x with
  | false => rfl
  | true => have := (FP.Core.isNaN_bits32 x).mp c; omega
def k_fv (a b : UInt32) : Array Value := #[.float a, .float b]
def k_mxr : NativeRow := ((Native.java_lang_Math.nans.extremum "max" true "nat.java_lang_Math.max" "nat.java_lang_Math.max/float")[1]?).getD (Native.java_lang_Math.nans.byStrictMath "ceil" "")
set_option maxRecDepth 100000 in
theorem k_mxf (p : Program) : NativeRow.find? p.tables.natives "java/lang/Math" "max" "(FF)F" = some k_mxr := by
  cases p <;> rfl
theorem k_mxs {a b : UInt32} (ha : q_n32 a = true) (hb : q_n32 b = true) (e : Env) (S : State) : ∃ acts, (k_mxr.sem (k_fv a b)).run e S = .ok (some (.float (q_fmx a b))) S acts := by
  have e1 : k_mxr.sem (k_fv a b) = (do
      let r ← if FP.fIsNaN a then anyNaN32 a else if FP.fIsNaN b then anyNaN32 b else Pure.pure (q_fmx a b)
      mark "nat.java_lang_Math.max/float"
      Pure.pure (some (Value.float r))) := rfl
  rw [e1, k_no ha, k_no hb]
  exact ⟨_, rfl⟩
section k_mxsec
variable {p : Program} {l : Launch} {e : Env} {R : Room} {s : State} {m : MethodId} {args : Array Value} {below : List Frame} {meth : Method} {c : Code} {Q : State → Prop} {H : Heap} {locs : List Loc} {cells slots : Nat}
/-- the one step that the entry takes: the method's own frame goes, the answer lies on the caller's stack -/
theorem k_mxt {U : State} {g : JFrame} {x : MethodId} {mx : Method} {kx : Class} {a b : UInt32} (na : q_n32 a = true) (nb : q_n32 b = true)
    (hcur : U.cur < U.threads.size) (hfr : U.frames = .java { method := x, pc := 0, locals := #[.val (.float a), .val (.float b)], stack := [], locked := none } :: .java g :: below)
    (hk : U.vm.classes[x.cls]? = some kx) (hm : kx.methods[x.idx]? = some mx) (hl : kx.loader = none) (hn : kx.name = "java/lang/Math") (hmn : mx.name = "max") (hmd : mx.desc = "(FF)F") (hst : mx.isStatic = true) (hpar : mx.sig.parameters.length = 2)
    {cg : Code} (hcg : U.code? g.method = some cg) {ig : Instr} {len : Nat} (hdg : decode cg.code g.pc = .ok (ig, len)) :
    (stepThread p.tables e U).1 = U.setFrames (.java { g with pc := g.pc + len, stack := .float (q_fmx a b) :: g.stack } :: below) := by
  have hov : overridden p.tables e U { method := x, pc := 0, locals := #[.val (.float a), .val (.float b)], stack := [], locked := none } = some k_mxr := by
    unfold overridden
    simp only [hk, hm, hl, hn, hmn, hmd, k_mxf p]
    rfl
  have hct : argCount U x = 2 := by
    unfold argCount
    simp [hk, hm, hpar, hst]
  obtain ⟨acts, hr⟩ := k_mxs na nb e (U.setFrames (.native { method := x, args := k_fv a b } :: .java g :: below))
  unfold stepThread
  rw [hfr]
  simp only [hov, hct]
  change (afterNative e { method := x, args := k_fv a b } (.java g :: below) ((k_mxr.sem (k_fv a b)).run e (U.setFrames (.native { method := x, args := k_fv a b } :: .java g :: below)))).1 = _
  rw [hr]
  show (doReturn e _ acts _).1 = _
  have hfs : handOver (U.setFrames (.native { method := x, args := k_fv a b } :: .java g :: below)) (some (.float (q_fmx a b))) (.java g :: below) = some (.java { g with pc := g.pc + len, stack := .float (q_fmx a b) :: g.stack } :: below) := by
    have h1 : (U.setFrames (.native { method := x, args := k_fv a b } :: .java g :: below)).code? g.method = some cg := hcg
    simp only [handOver, h1, Option.bind_some, hdg]
    rfl
  rw [doReturn_native (f := { method := x, args := k_fv a b }) (below := .java g :: below) (State.frames_setFrames _ hcur) rfl hfs, State.setFrames_setFrames]
theorem k_mx0 {T : State} (X : Stand p l e R s m args below meth c T locs cells slots) (hexec : p.tables.exec = Jvm.exec) {own : String} {index : Nat} (hown : s.vm.findClass own = some m.cls) (hlink : (Cond.methodLink own index q_mxf).before args s = true) (hstat : (Cond.static q_mxf).before args s = true) (hinit : (Cond.initialized "java/lang/Math").before args s = true) {mb : ByteArray} (hcode : (Cond.code q_mxf mb 2 (some .float)).before args s = true)
    {g : JFrame} (hg : g.method = m) (hsize : g.locals.size = c.maxLocals) {rest : List Value} {a b : UInt32} (na : q_n32 a = true) (nb : q_n32 b = true) (hstack : g.stack = .float b :: .float a :: rest) (hdg : decode c.code g.pc = .ok (.invokestatic index, 3)) (hframes : 1 ≤ R.frames) (hlocals : 2 * g.monitorRoom + (rest.map fun v => v.category).sum + 13 ≤ R.locals) :
    ∃ vm', Stand p l e R s m args below meth c (T.setVm vm') locs cells slots ∧ ∀ target, Steps p.tables e below ((T.setVm vm').setTop { g with pc := g.pc + 3, stack := .float (q_fmx a b) :: rest }) target → Steps p.tables e below (T.setTop g) target := by
  obtain ⟨mk, hnamed⟩ := Cond.code_named hcode
  obtain ⟨methM, cM, hmethM, -, -, -, -, -, -, hsigM⟩ := Cond.code_spec hnamed hcode
  have hstatic : methM.isStatic = true := Cond.static_spec hnamed hmethM hstat
  obtain ⟨kP, hkP, -⟩ := className_of_methodNamed hnamed
  have hinitP : kP.init = .initialized := Cond.initialized_spec (findClass_of_methodNamed hnamed) hkP hinit
  have hsig2 : parseMethodDescriptor q_mxf.desc = some { parameters := [.float, .float], returnType := some .float } := by decide +kernel
  have hpar : methM.sig.parameters.length = 2 := by
    rw [hsig2] at hsigM
    rw [← Option.some.inj hsigM]; rfl
  obtain ⟨vm₁, X₁, hstep₁⟩ := X.invokestatic hexec hown hlink hnamed hmethM hstatic hkP hinitP (by decide) (g := g) hg (argsL := [.float a, .float b]) (rest := rest) (by rw [hpar]; rfl) hstack hdg
  refine ⟨vm₁, X₁, fun target hrest => hstep₁ target fun acts => ?_⟩
  -- the method in the state as it stands now
  have hnU := X₁.named hnamed
  have hcodeU : (Cond.code q_mxf mb 2 (some .float)).before args (T.setVm vm₁) = true := Cond.tabsOnly_warm (args' := args) (T := T.setVm vm₁) X₁.warmed _ rfl hcode
  have hstatU : (Cond.static q_mxf).before args (T.setVm vm₁) = true := Cond.tabsOnly_warm (args' := args) (T := T.setVm vm₁) X₁.warmed _ rfl hstat
  obtain ⟨mU, cU, hmU, hcU, -, hlU, -, hkU, -, hsigU⟩ := Cond.code_spec hnU hcodeU
  have hstU : mU.isStatic = true := Cond.static_spec hnU hmU hstatU
  have hparU : mU.sig.parameters.length = 2 := by
    rw [hsig2] at hsigU
    rw [← Option.some.inj hsigU]; rfl
  obtain ⟨kU, hkcU, hknU⟩ := className_of_methodNamed hnU
  obtain ⟨hmnU, hmdU⟩ := name_of_methodNamed hnU hmU
  have hkc2 : vm₁.classes[mk.cls]? = some kU := hkcU
  have hmxU : kU.methods[mk.idx]? = some mU := by simpa [Vm.method?, hkc2] using hmU
  have hboot : kU.loader = none := Vm.bootOf_findClass (findClass_of_methodNamed hnU) hkcU
  have hcur : ((T.setVm vm₁).setTop { g with stack := rest }).cur < ((T.setVm vm₁).setTop { g with stack := rest }).threads.size := by
    have hF : ((T.setVm vm₁).setTop { g with stack := rest }).frames = .java { g with stack := rest } :: below := by rw [State.frames_setTop' _ X₁.here.top, X₁.tail]
    exact State.cur_lt_of_frames hF
  have hF : ((T.setVm vm₁).setTop { g with stack := rest }).frames = .java { g with stack := rest } :: below := by rw [State.frames_setTop' _ X₁.here.top, X₁.tail]
  have hfull := X₁.notFull (g := { g with stack := rest }) hsize (vars := cU.maxLocals) hframes (by rw [hlU]; exact hlocals)
  rw [(doInvoke_java (s := (T.setVm vm₁).setTop { g with stack := rest }) (e := e) (acts := acts) (args := ([.float a, .float b] : List Value).toArray) (meth := mU) (code := cU) hmU hcU hkU hfull).1, hlU]
  have hS1 : ((T.setVm vm₁).setTop { g with stack := rest }).pushFrame (.java { method := mk, pc := 0, locals := argsToLocals ([.float a, .float b] : List Value).toArray 2, stack := [], locked := none }) = ((T.setVm vm₁).setTop { g with stack := rest }).setFrames (.java { method := mk, pc := 0, locals := #[.val (.float a), .val (.float b)], stack := [], locked := none } :: .java { g with stack := rest } :: below) := by
    rw [State.pushFrame, hF]; rfl
  rw [hS1]
  obtain ⟨g0, hg0⟩ := Option.isSome_iff_exists.mp X₁.here.top
  obtain ⟨r0, hr0⟩ := State.topJava?_eq_some.mp hg0
  have hr1 : r0 = below := by
    have := X₁.tail
    rw [hr0] at this
    exact this
  subst hr1
  have hS0 : ∀ F : List Frame, ((T.setVm vm₁).setTop { g with stack := rest }).setFrames F = (T.setVm vm₁).setFrames F := fun F => by rw [State.setTop_of_frames _ hr0, State.setFrames_setFrames]
  rw [hS0]
  have hcur0 := State.cur_lt_of_frames hr0
  have hfr1 := State.frames_setFrames (s := T.setVm vm₁) (.java { method := mk, pc := 0, locals := #[.val (.float a), .val (.float b)], stack := [], locked := none } :: .java { g with stack := rest } :: r0) hcur0
  have hst1 := k_mxt (p := p) (e := e) (U := (T.setVm vm₁).setFrames (.java { method := mk, pc := 0, locals := #[.val (.float a), .val (.float b)], stack := [], locked := none } :: .java { g with stack := rest } :: r0)) na nb (State.cur_lt_of_frames hfr1) hfr1 (kx := kU) (mx := mU) hkcU hmxU hboot hknU hmnU hmdU hstU hparU (cg := c) (by rw [hg]; exact X₁.here.code) hdg
  refine Steps.head ⟨X₁.here.running, by simpa using X₁.here.runnable, by simpa using X₁.here.alone⟩ ⟨[.java { method := mk, pc := 0, locals := #[.val (.float a), .val (.float b)], stack := [], locked := none }, .java { g with stack := rest }], by rw [hfr1]; rfl, by simp, by simp⟩ ?_
  rw [hst1, State.setFrames_setFrames, ← State.setTop_of_frames _ hr0]
  exact hrest
/-- a call of Math.max of two floats -/
theorem k_mxw {cc : ByteArray} {pc : Nat} {ls : Array Slot} {rest : List Value} (hexec : p.tables.exec = Jvm.exec) (hb : c.code = cc) (hml : c.maxLocals = ls.size) {own : String} {index : Nat} (hown : s.vm.findClass own = some m.cls) (hlink : (Cond.methodLink own index q_mxf).before args s = true) (hstat : (Cond.static q_mxf).before args s = true) (hinit : (Cond.initialized "java/lang/Math").before args s = true) {mb : ByteArray} (hcode : (Cond.code q_mxf mb 2 (some .float)).before args s = true) {a b : UInt32} (na : q_n32 a = true) (nb : q_n32 b = true)
    (hframes : 1 ≤ R.frames) (hlocals : (rest.map fun v => v.category).sum + 13 ≤ R.locals) (hdg : decode cc pc = .ok (.invokestatic index, 3))
    (k : W p l e R s m args below meth c H locs cells slots Q (F0 m (pc + 3) ls (.float (q_fmx a b) :: rest))) : W p l e R s m args below meth c H locs cells slots Q (F0 m pc ls (.float b :: .float a :: rest)) := by
  intro T hT X
  obtain ⟨vm', X', st⟩ := k_mx0 X hexec hown hlink hstat hinit hcode (g := F0 m pc ls (.float b :: .float a :: rest)) rfl (by rw [hml]) na nb rfl (by rw [hb]; exact hdg) hframes (by show 2 * 0 + _ + 13 ≤ _; omega)
  obtain ⟨t, a1, b1⟩ := k (T.setVm vm') hT X'
  exact ⟨t, st t a1, b1⟩
end k_mxsec
