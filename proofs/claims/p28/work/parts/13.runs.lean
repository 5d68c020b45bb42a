section -- [13.throw]
/-! Part 13: the throws of the class's own code. q_ctor follows the way of the library's row for constructors that pass on by entry 7, here with any entry; q_throwX follows vx_throwS. -/
section q_th3
variable {p : Program} {l : Launch} {e : Env} {R : Room} {s : State} {m : MethodId} {args : Array Value} {below : List Frame} {meth : Method} {c : Code} {H : Heap} {locs : List Loc} {cells slots : Nat}
set_option maxHeartbeats 1000000 in
theorem q_ctor {W : State} (X : Stand p l e R s m args below meth c W locs cells slots) (hexec : p.tables.exec = Jvm.exec) (htr : e.platform.stackTraces = false) {own cls : String} {names : List String} {ic ix : Nat} {rx : ByteArray}
    (x0 : decode rx 0 = .ok (.aload_n 0, 1)) (x1 : decode rx 1 = .ok (.aload_n 1, 1)) (x2 : decode rx 2 = .ok (.invokespecial ix, 3)) (x5 : decode rx 5 = .ok (.return_, 1))
    (hown : s.vm.findClass own = some m.cls) (hcls : Bundle.fit cls = true) (hnames : ∀ n ∈ names, Bundle.fit n = true) (h : ∀ w ∈ Bundle.ownAtomsX own ic cls ix rx names, w.before args s = true)
    (hlocs : ∀ x ∈ locs, ∀ cell, s.heap[x.base]? = some cell → cell.vm.isStatics = false)
    {a : Addr} {cX : ClassId} {kX : Class} (hfX : s.vm.findClass cls = some cX) (hkX : s.vm.classes[cX]? = some kX) (hcell : W.heap[a]? = some (freshCell cX kX)) (hnew : s.heap.size ≤ a)
    {msg : Value} (hmsg : msg.isRef = true) {g : JFrame} (hg : g.method = m) (hsize : g.locals.size = c.maxLocals) (hlocked : g.locked = none) (hentered : g.entered = []) {rest : List Value} (hstack : g.stack = msg :: .ref a :: .ref a :: rest)
    (hd6 : decode c.code g.pc = .ok (.invokespecial ic, 3)) (hd9 : decode c.code (g.pc + 3) = .ok (.athrow, 1)) (hout : ∀ x ∈ c.exceptionTable.toList, covers x (g.pc + 3) = false)
    (hRframes : names.length + 3 < R.frames) (hRlocals : 2 * g.monitorRoom + ((Value.ref a :: rest).map fun v => v.category).sum + (13 * (names.length + 1) + 42) ≤ R.locals) (hlocks : meth.locks = false) :
    ∃ U : State, Steps p.tables e below (W.setTop g) U ∧ U.status = .running ∧ Ended U below (.threw a) ∧ s.WarmedH U.vm ∧ s.sameButNew ({ U with vm := s.vm } : State) locs cells slots ∧
      ∃ ce, U.heap[a]? = some ce ∧ ce.cls = cX ∧ ce.vm = .none := by
  have hpl : e.platform.magicAccessors = ({} : Platform).magicAccessors := by rw [X.admits.platform]
  have k : ∀ x, x ∈ Bundle.ownAtomsX own ic cls ix rx names → x.holds args s none s [] = true := fun x hx => h x hx
  obtain ⟨T, Z0, L, -, Y⟩ := ThrowableC.of_atoms (args := args) (by rw [X.admits.platform]) (by rw [X.admits.platform]) hpl (fun x hx => h x (by simp [Bundle.ownAtomsX, hx]))
  obtain ⟨Z, M, LZ, LM, hnZ⟩ := Init0T.ofS_atoms (args := args) hpl L Y (fun x hx => h x (by simp [Bundle.ownAtomsX, hx]))
  obtain ⟨P1, Ps, hlen, L1, hL, hP1m, hk1, hk2⟩ := Bundle.chainSX (args := args) hpl hnZ x0 x1 x2 x5 names cls hcls hnames (fun x hx => h x (by simp [Bundle.ownAtomsX, hx]))
  have hfound : s.vm.findClass cls = some P1.m.cls := findClass_of_methodNamed hP1m
  cases Option.some.inj (hfX.symm.trans hfound)
  obtain ⟨c1, kX', hc1, hk, hord, -, -, hn6⟩ := Cond.instantiable_spec (k (.instantiable cls 6) (by simp [Bundle.ownAtomsX]))
  cases Option.some.inj (hc1.symm.trans hfound)
  cases Option.some.inj (hkX.symm.trans hk)
  have hsel0 : selectMethod e.platform s.vm P1.m.cls T.fill0 = .method T.fill0 := by
    obtain ⟨c2, r2, m2, q1, q2, q3, q4, -⟩ := Cond.selects_spec (k (.selects cls Bundle.tFill0 Bundle.tFill0) (by simp [Bundle.ownAtomsX]))
    cases Option.some.inj (q1.symm.trans hfound)
    cases Option.some.inj (q2.symm.trans (State.methodFound?_of_named Y.fill0 (by decide)))
    cases Option.some.inj (q3.symm.trans Y.fill0)
    rw [Launch.admits_selectMethod X.admits]; exact q4
  have hselF : selectMethod e.platform s.vm P1.m.cls T.fill = .method T.fill := by
    obtain ⟨c2, r2, m2, q1, q2, q3, q4, -⟩ := Cond.selects_spec (k (.selects cls Bundle.tFill Bundle.tFill) (by simp [Bundle.ownAtomsX]))
    cases Option.some.inj (q1.symm.trans hfound)
    cases Option.some.inj (q2.symm.trans (State.methodFound?_of_named Y.fill (by decide)))
    cases Option.some.inj (q3.symm.trans Y.fill)
    rw [Launch.admits_selectMethod X.admits]; exact q4
  obtain ⟨cS0, hcS0, hiss⟩ := Y.statics
  obtain ⟨u0, hu0⟩ := Cond.staticRefV Y.unassigned L.unassignedStatic L.statics hcS0 hiss (k (.isRef (.static Bundle.tN "UNASSIGNED_STACK" Bundle.steD)) (by simp [Bundle.ownAtomsX]))
  obtain ⟨sen, hsen⟩ := Cond.staticRefV Y.sentinel L.sentinelStatic L.statics hcS0 hiss (k (.isRef (.static Bundle.tN "SUPPRESSED_SENTINEL" Bundle.listD)) (by simp [Bundle.ownAtomsX]))
  obtain ⟨ci9, i9, fB, b1, b2, b3, b4, -, hnB, htB, hffB⟩ := Cond.ownField (t := .object "java/lang/Object") Y.found L.cls (by decide +kernel) (k (.fieldLink Bundle.tN 198 Bundle.tN "backtrace" "Ljava/lang/Object;") (by simp [Bundle.ownAtomsX])) (k (.lays Bundle.tN Bundle.tN "backtrace" "Ljava/lang/Object;") (by simp [Bundle.ownAtomsX])) e.platform hpl
  obtain ⟨cS, hcS, heS, -, hkeep⟩ := X.same.2.2.2.2.2 T.aS cS0 hcS0
  have hcS' : W.heap[T.aS]? = some cS := hcS
  have hfar : ∀ i, (⟨T.aS, i⟩ : Loc) ∉ locs := fun i hmem => by
    have h9 := hlocs _ hmem cS0 hcS0
    rw [hiss] at h9; cases h9
  have hknown : cS.vm ≠ .unknown := by
    rw [heS]; intro hu
    rw [show cS0.vm = .unknown from hu] at hiss
    cases hiss
  have hne : T.aS ≠ a := Nat.ne_of_lt (Nat.lt_of_lt_of_le (Array.getElem?_eq_some_iff.mp hcS0).1 hnew)
  obtain ⟨iM, hffM⟩ := Y.msg
  obtain ⟨tyC, dC, hdC, hnC⟩ := Cond.laysAt hfound hk Y.cause (k (.lays cls Bundle.tN "cause" "Ljava/lang/Throwable;") (by simp [Bundle.ownAtomsX]))
  obtain ⟨tyS, dS, hdS, hnS⟩ := Cond.laysAt hfound hk Y.stack (k (.lays cls Bundle.tN "stackTrace" Bundle.steD) (by simp [Bundle.ownAtomsX]))
  obtain ⟨tyP, dP, hdP, hnP⟩ := Cond.laysAt hfound hk Y.supp (k (.lays cls Bundle.tN "suppressedExceptions" Bundle.listD) (by simp [Bundle.ownAtomsX]))
  obtain ⟨tyM, dM, hdM, hnM⟩ := Cond.laysAt hfound hk hffM (k (.lays cls Bundle.tN "detailMessage" "Ljava/lang/String;") (by simp [Bundle.ownAtomsX]))
  obtain ⟨tyB, dB, hdB, hdnB⟩ := Cond.laysAt hfound hk hffB (k (.lays cls Bundle.tN "backtrace" "Ljava/lang/Object;") (by simp [Bundle.ownAtomsX]))
  have bC := Cond.laysApart hdB hdC hdnB hnC (by rw [hnB, Y.causeName]; decide)
  have bS := Cond.laysApart hdB hdS hdnB hnS (by rw [hnB, Y.stackName]; decide)
  have bP := Cond.laysApart hdB hdP hdnB hnP (by rw [hnB, Y.suppName]; decide)
  have hskip : SkipFacts T e.platform s (fun u => u) u0 ((preparedCellV T.toThrowableT (freshCell P1.m.cls kX) a u0 sen).withEntry W.cur) :=
    ⟨{ ci198 := ci9, i198 := i9, fBack := fB }, ⟨b1, b2, b3, b4⟩, by
      have h9 := fresh_default (c := P1.m.cls) tyB
      rw [htB] at h9
      simpa [preparedCellV, Cell.setSlot, Cell.withEntry, Array.getElem?_setIfInBounds, bC, bS, bP, bC.symm, bS.symm, bP.symm, defaultValue] using h9, fun _ _ => rfl⟩
  have hin : (Cond.instanceMethod (Bundle.initS cls)).before args s = true := h _ (by cases names <;> simp [Bundle.ownAtomsX, Bundle.chainSAtomsX, Bundle.passSAtoms])
  have hco : (Cond.code (Bundle.initS cls) rx 2 none).before args s = true := h _ (by cases names <;> simp [Bundle.ownAtomsX, Bundle.chainSAtomsX, Bundle.passSAtoms])
  obtain ⟨tm, methC, cdC, kC, vm₁, hnC9, -, -, -, -, -, -, -, hW₁, st1⟩ := Steps.initColdS (tb := p.tables) (e := e) (below := below) (s := s) (U := W) X.here hexec X.warmed hpl hown (t := Bundle.initS cls) rfl rfl (Bundle.fit_spec hcls).2
    (k (.methodLink own ic (Bundle.initS cls)) (by simp [Bundle.ownAtomsX])) hin (bytes := rx) (maxL := 2) hco (f := g) hg (a := a) (msg := msg) (rest := .ref a :: rest) hstack hd6
  cases Option.some.inj (hnC9.symm.trans hP1m)
  have X₁ := X.noted hW₁
  obtain ⟨vm₂, X₂, st2⟩ := X₁.ctorMessageOffV hexec (g := { g with stack := .ref a :: rest }) hg hsize T L Z LZ M LM (P1 :: Ps)
    (fun P hP => by rcases List.mem_cons.mp hP with rfl | hP; exact L1; exact hL P hP) ⟨hk1, hk2⟩ (u0 := u0) (sen := sen) (self := a) hmsg (cell := freshCell P1.m.cls kX) (cellS := cS)
    hcell (fun _ => by simp) (by simp) rfl rfl hsel0 hselF hcS' hne hknown (by rw [hkeep _ (hfar _)]; exact hu0) (by rw [hkeep _ (hfar _)]; exact hsen)
    (Takes.of_laid hk hord tyC (by rw [Y.causeType]; rfl)) (Takes.of_laid hk hord tyS (by rw [Y.stackType]; exact fits_refV_array _ u0)) (Takes.of_laid hk hord tyP (by rw [Y.suppType]; exact fits_refV_object _ sen))
    (Takes.of_laid hk hord tyM (by rw [Y.msgType]; exact fits_refV_object _ ⟨msg, hmsg⟩)) Y.objLocals hskip htr [] hd6
    (by simp only [List.length_cons, hlen]; omega) (by simp only [List.length_cons, hlen]; exact hRlocals)
  obtain ⟨hwalk, hrun, hended, hWU, hsame⟩ := X₂.athrowLeaves hexec (g := { g with stack := .ref a :: rest, pc := g.pc + 3 }) hg hlocked hentered hout (a := a) (rest := rest) rfl hd9
  have hlt : a < ((W.setVm vm₁).setVm vm₂).heap.size := (Array.getElem?_eq_some_iff.mp hcell).1
  have hU := heapAt_setCell_self (s := (W.setVm vm₁).setVm vm₂) (plainBareV T.toThrowableT (freshCell P1.m.cls kX) a u0 sen msg) hlt
  refine ⟨_, st1 _ (fun acts => ?_), hrun, hended, hWU, hsame.weaken (fun y hy hlt' => ?_) (Nat.le_refl _) (Nat.le_refl _), _, hU, rfl, rfl⟩
  · rw [doInvoke_state]
    exact st2 _ hwalk
  · rcases List.mem_append.mp hy with h1 | h1
    · exact h1
    · exfalso
      have hb : y.base = a := by
        simp only [List.mem_cons, List.not_mem_nil, or_false] at h1
        rcases h1 with rfl | rfl | rfl | rfl | rfl <;> rfl
      rw [hb] at hlt'
      exact Nat.not_lt.mpr hnew hlt'
variable {mc ms : Nat} {free : Addr → Prop} {ls : Array Slot} {rest : List Value} {Qc : Array Value → State → Outcome → State → Prop} {XC : String → State → State → Prop}
/-- 'throw new E("text")', E's constructor passing on by the entry ix; n: the length of the ldc -/
theorem q_throwX {cc : ByteArray} {pc : Nat} (hexec : p.tables.exec = Jvm.exec) (hb : c.code = cc) (hl : l.stackTraces = false) {own cls text : String} {names : List String} {ik is ic ix sa n : Nat} {rx : ByteArray} {A : Nat → Prop}
    (x0 : decode rx 0 = .ok (.aload_n 0, 1)) (x1 : decode rx 1 = .ok (.aload_n 1, 1)) (x2 : decode rx 2 = .ok (.invokespecial ix, 3)) (x5 : decode rx 5 = .ok (.return_, 1))
    (hown : s.vm.findClass own = some m.cls) (hcls : Bundle.fit cls = true) (hnames : ∀ n ∈ names, Bundle.fit n = true)
    (hk : (Cond.classLink own ik cls).before args s = true) (hini : (Cond.initialized cls).before args s = true) (hstr : vk_R own is text sa s) (hat : ∀ w ∈ (Bundle.ownAtomsX own ic cls ix rx names).filter vx_no, w.before args s = true)
    (hgood : ∀ w ∈ Cond.classLink own ik cls :: Cond.initialized cls :: (Bundle.ownAtomsX own ic cls ix rx names).filter vx_no, vx_ot w = true)
    (hU : vx_Zq Bundle.tN "UNASSIGNED_STACK" Bundle.steD A s s.heap) (hN : vx_Zq Bundle.tN "SUPPRESSED_SENTINEL" Bundle.listD A s s.heap) (hS : va_S A s.heap H locs) (hsize : ls.size = c.maxLocals)
    (d0 : decode cc pc = .ok (.new ik, 3)) (d3 : decode cc (pc + 3) = .ok (.dup, 1)) (d4 : (n = 2 ∧ decode cc (pc + 4) = .ok (.ldc is, 2)) ∨ (n = 3 ∧ decode cc (pc + 4) = .ok (.ldc_w is, 3))) (d6 : decode cc (pc + 4 + n) = .ok (.invokespecial ic, 3)) (d9 : decode cc (pc + 4 + n + 3) = .ok (.athrow, 1))
    (hout : c.exceptionTable.toList = [])
    (hRframes : names.length + 3 < R.frames) (hRlocals : (rest.map fun v => v.category).sum + (13 * (names.length + 1) + 43) ≤ R.locals) (hRcells : cells + 1 ≤ R.cells) (hRslots : slots + 6 ≤ R.slots) (hlocks : meth.locks = false)
    (hx : ∀ t : State, s.vm.Alike t.vm → H.size ≤ t.heap.size → (∀ q : Nat, q < H.size → t.heap[q]? = H[q]?) → XC cls s t)
    (hf : ∀ z ∈ locs, free z.base) (hc : cells + 1 ≤ mc) (hs : slots + 6 ≤ ms) :
    W p l e R s m args below meth c H locs cells slots (vx_MQ below Qc XC args s mc ms free) (F0 m pc ls rest) := by
  intro T hT X
  have htr : e.platform.stackTraces = false := (show e.platform.stackTraces = l.stackTraces by rw [X.admits.platform]).trans hl
  have Y := vx_rebase X (R' := { frames := R.frames, locals := R.locals, cells := 1, slots := 6 }) (Nat.le_refl _) (Nat.le_refl _) hRcells hRslots
  obtain ⟨s', hA⟩ : ∃ z, z = (T.setVm s.vm).setFrames (.invoking m args :: below) := ⟨_, rfl⟩
  rw [← hA] at Y
  have hvm : s'.vm = s.vm := by rw [hA]; rfl
  have hhp : s'.heap = H := by rw [hA]; exact hT
  have hW0 : s.WarmedH s'.vm := by rw [hvm]; exact State.WarmedH.refl s
  have hat' : ∀ w ∈ (Bundle.ownAtomsX own ic cls ix rx names).filter vx_no, w.before args s' = true := fun w hw => vx_ot_at hW0 hvm.symm (hgood w (List.mem_cons_of_mem _ (List.mem_cons_of_mem _ hw))) (hat w hw)
  have hk' : (Cond.classLink own ik cls).before args s' = true := vx_ot_at hW0 hvm.symm (hgood _ List.mem_cons_self) hk
  have hini' : (Cond.initialized cls).before args s' = true := vx_ot_at hW0 hvm.symm (hgood _ (List.mem_cons_of_mem _ List.mem_cons_self)) hini
  have hU' : vx_Zq Bundle.tN "UNASSIGNED_STACK" Bundle.steD A s' s'.heap := by rw [hhp]; exact vx_Zq.moved hW0.alike (hU.kept hS.2.1)
  have hN' : vx_Zq Bundle.tN "SUPPRESSED_SENTINEL" Bundle.listD A s' s'.heap := by rw [hhp]; exact vx_Zq.moved hW0.alike (hN.kept hS.2.1)
  have h : ∀ w ∈ Bundle.ownAtomsX own ic cls ix rx names, w.before args s' = true := vx_own hat' (vx_isRefq hU'.1) (vx_isRefq hN'.1) hU'.2.word hN'.2.word
  have hown' : s'.vm.findClass own = some m.cls := by rw [hvm]; exact hown
  have hins : (Cond.instantiable cls 6).before args s' = true := h _ (by simp [Bundle.ownAtomsX])
  obtain ⟨vm₁, cX, kX, hfX, hkX, -, -, X₁, st1⟩ := Y.newCold hexec (own := own) (C := cls) (index := ik) (n := 6) hown' hk' hins hini'
    (g := F0 m pc ls rest) rfl (by rw [hb]; exact d0) (Nat.le_refl _) (Nat.le_refl _)
  generalize hT1 : (T.setVm vm₁).pushCell { cls := cX, slots := kX.instanceTypes.map defaultValue, vm := .none } = T1 at X₁ st1
  have hcat : (Value.ref T.heap.size).category = 1 := rfl
  have hcellA : T1.heap[T.heap.size]? = some (freshCell cX kX) := by rw [← hT1]; exact State.heap_pushCell_size _ _
  have d3' : decode c.code (pc + 3) = .ok (.dup, 1) := by rw [hb]; exact d3
  have hstr' : vk_R own is text sa s' := vk_R.warm hW0 hstr
  obtain ⟨U, hsteps, hrun, hend, hW, hsame, ce, hce, hO1, hO2⟩ := q_ctor X₁ hexec htr x0 x1 x2 x5 (own := own) (cls := cls) (names := names) (ic := ic) hown' hcls hnames h (fun x hx => nomatch hx) hfX hkX hcellA (by rw [hhp, hT]; exact Nat.le_refl _) (msg := .ref sa) rfl
    (g := { method := m, pc := pc + 4 + n, locals := ls, stack := .ref sa :: .ref T.heap.size :: .ref T.heap.size :: rest, locked := none }) rfl hsize rfl rfl (rest := rest) rfl
    (by rw [hb]; exact d6) (by rw [hb]; exact d9) (fun x hx => by rw [hout] at hx; cases hx) hRframes (by simp only [List.map_cons, List.sum_cons, hcat]; omega) hlocks
  obtain ⟨f1, f2⟩ := vx_frame hsame
  rw [hhp] at f1 f2
  have hWs : s.WarmedH U.vm := State.WarmedH.trans hW0 hW
  have hcl : s.vm.findClass cls = some ce.cls := by
    rw [hO1]
    rw [hvm] at hfX
    exact hfX
  have hall : s.sameButNew ({ U with vm := s.vm } : State) locs mc ms := by
    subst hA
    obtain ⟨e1, e2⟩ := hsame
    rw [State.setFrames_setFrames] at e1
    have h2 : (T.setVm s.vm).sameButNew ({ U with vm := s.vm } : State) [] (0 + 1) (0 + 6) := ⟨e1, e2⟩
    have h3 := X.same.trans h2
    rw [List.append_nil] at h3
    exact h3.mono hc hs
  refine ⟨U, ?_, .threw T.heap.size, hrun, hend, Or.inr ⟨T.heap.size, rfl, cls, ce, locs, hx U hWs.alike f1 (fun q hq => f2 q hq (fun z hz => nomatch hz)), hce, hO2, hcl, hWs, hall, hf⟩⟩
  refine st1 _ ?_
  show Steps p.tables e below (T1.setTop { method := m, pc := pc + 3, locals := ls, stack := .ref T.heap.size :: rest, locked := none }) _
  jvm_step X₁.here [X₁.here.top, hexec, d3', Value.category]
  rcases d4 with ⟨rfl, d4⟩ | ⟨rfl, d4⟩
  · exact X₁.ldcString hexec (own := own) (text := text) (index := is) (a := sa) hown' hstr'.1 hstr'.2
      (g := { method := m, pc := pc + 4, locals := ls, stack := .ref T.heap.size :: .ref T.heap.size :: rest, locked := none }) rfl (by rw [hb]; exact d4) _ hsteps
  · exact X₁.ldcStringW hexec (own := own) (text := text) (index := is) (a := sa) hown' hstr'.1 hstr'.2
      (g := { method := m, pc := pc + 4, locals := ls, stack := .ref T.heap.size :: .ref T.heap.size :: rest, locked := none }) rfl (by rw [hb]; exact d4) _ hsteps
end q_th3
theorem q_fit_e : ∀ k, k < 4 → Bundle.fit (q_ex k) = true
  | 0, _ => by decide +kernel
  | 1, _ => by decide +kernel
  | 2, _ => by decide +kernel
  | 3, _ => by decide +kernel
theorem q_fit_n : ∀ n ∈ q_nms, Bundle.fit n = true := by decide +kernel
theorem q_th_ot : (q_TH.all fun q => (Cond.classLink (q_on q.1) q.2.1 (q_ex q.2.2.1) :: Cond.initialized (q_ex q.2.2.1) :: q_tw q).all vx_ot) = true := by decide +kernel
theorem q_th_6 : (q_TH.all fun q => Nat.beq q.2.2.1 3 || ((Bundle.ownAtomsX (q_on q.1) q.2.2.2 (q_ex q.2.2.1) 7 Bundle.six q_nms).filter vx_no).all (fun w => decide (w ∈ q_tw q))) = true := by decide +kernel
theorem q_th_13 : (q_TH.all fun q => !(Nat.beq q.2.2.1 3) || ((Bundle.ownAtomsX (q_on q.1) q.2.2.2 (q_ex q.2.2.1) 13 q_rx q_nms).filter vx_no).all (fun w => decide (w ∈ q_tw q))) = true := by decide +kernel
theorem q_rx0 : decode q_rx 0 = .ok (.aload_n 0, 1) := by decide +kernel
theorem q_rx1 : decode q_rx 1 = .ok (.aload_n 1, 1) := by decide +kernel
theorem q_rx2 : decode q_rx 2 = .ok (.invokespecial 13, 3) := by decide +kernel
theorem q_rx5 : decode q_rx 5 = .ok (.return_, 1) := by decide +kernel
theorem q_thw {args : Array Value} {s : State} (hts : ∀ w ∈ q_GL2, w.before args s = true) (hBL : ∀ w ∈ q_BL, va_Nw w s) : ∀ q ∈ q_TH, ∀ w ∈ q_tw q, w.before args s = true := by
  intro q hq w hw
  by_cases g : goodWord w = true
  · exact hts w (List.mem_append_right _ (List.mem_flatMap.mpr ⟨q, hq, List.mem_filter.mpr ⟨hw, g⟩⟩))
  · have hm : w ∈ q_BL := List.mem_append_left _ (List.mem_flatMap.mpr ⟨q, hq, List.mem_filter.mpr ⟨hw, by simp [g]⟩⟩)
    exact va_Nw.use (q_bk_t (List.all_eq_true.mp q_BL_k w hm)) (hBL w hm)
/-- a throw of the class's own code -/
theorem q_thrown {p : Program} {l : Launch} {e : Env} {R : Room} {s : State} {m : MethodId} {args : Array Value} {below : List Frame} {meth : Method} {c : Code} {H : Heap} {locs : List Loc} {cl sl mc ms : Nat} {free : Addr → Prop} {ls : Array Slot} {st : List Value} {Qc : Array Value → State → Outcome → State → Prop} {XC : String → State → State → Prop}
    {i pc k ik : Nat} {base : Nat} {bs : Nat → Nat} {L : Nat} {xs : Nat → Int32} (hX : q_Cx i p l R s m args meth c base bs L xs) (ht : q_thr i pc k ik) (hk4 : k < 4) (hS : va_S (q_A base) s.heap H locs) (hsize : ls.size = c.maxLocals)
    (hfr : 6 ≤ R.frames) (hlc : (st.map fun v => v.category).sum + 82 ≤ R.locals) (hcl : cl + 1 ≤ R.cells) (hsl : sl + 6 ≤ R.slots) (htab : c.exceptionTable.toList = [])
    (hx : ∀ t : State, s.vm.Alike t.vm → H.size ≤ t.heap.size → (∀ q : Nat, q < H.size → t.heap[q]? = H[q]?) → XC (q_ex k) s t) (hf : ∀ z ∈ locs, free z.base) (hc : cl + 1 ≤ mc) (hs : sl + 6 ≤ ms) :
    W p l e R s m args below meth c H locs cl sl (vx_MQ below Qc XC args s mc ms free) (F0 m pc ls st) := by
  obtain ⟨hx9, hb, hml, hown, hts, hlocks, hnm, htab9, hKX, hst, hR, h275⟩ := hX
  obtain ⟨kBL, kSL, kNC, kAO, kU, kN, kX, kZ, kS, kW, kC, kFo, kNz, kbs, kba⟩ := hKX
  obtain ⟨hc8, ic, is9, t1, t2, t3, d0, d3, hdd⟩ := ht
  rw [hc8] at hown
  obtain ⟨tx, sa, hstr⟩ := kSL _ t3
  have hdd' : ∃ n, ((n = 2 ∧ decode (q_bc i) (pc + 4) = .ok (.ldc is9, 2)) ∨ (n = 3 ∧ decode (q_bc i) (pc + 4) = .ok (.ldc_w is9, 3))) ∧ decode (q_bc i) (pc + 4 + n) = .ok (.invokespecial ic, 3) ∧ decode (q_bc i) (pc + 4 + n + 3) = .ok (.athrow, 1) := by
    rcases hdd with ⟨g1, g2, g3⟩ | ⟨g1, g2, g3⟩
    · exact ⟨2, Or.inl ⟨rfl, g1⟩, g2, g3⟩
    · exact ⟨3, Or.inr ⟨rfl, g1⟩, g2, g3⟩
  obtain ⟨n, d4, d6, d9⟩ := hdd'
  have hlk : (Cond.classLink (q_on 8) ik (q_ex k)).before args s = true := hts _ (q_g1 (q_G_x_m (List.mem_map.mpr ⟨_, t2, rfl⟩)))
  have hini : (Cond.initialized (q_ex k)).before args s = true := hts _ (q_g1 (q_G_e_m (List.mem_map.mpr ⟨k, List.mem_range.mpr hk4, rfl⟩)))
  have hw := q_thw hts kBL _ t1
  have hot : ∀ w ∈ Cond.classLink (q_on 8) ik (q_ex k) :: Cond.initialized (q_ex k) :: q_tw (8, ik, k, ic), vx_ot w = true := List.all_eq_true.mp (List.all_eq_true.mp q_th_ot _ t1)
  have hot2 : ∀ L : List Cond, (∀ w ∈ L, w ∈ q_tw (8, ik, k, ic)) → ∀ w ∈ Cond.classLink (q_on 8) ik (q_ex k) :: Cond.initialized (q_ex k) :: L, vx_ot w = true := by
    intro L hL w hw9
    rcases List.mem_cons.mp hw9 with rfl | hw9
    · exact hot _ List.mem_cons_self
    · rcases List.mem_cons.mp hw9 with rfl | hw9
      · exact hot _ (List.mem_cons_of_mem _ List.mem_cons_self)
      · exact hot _ (List.mem_cons_of_mem _ (List.mem_cons_of_mem _ (hL w hw9)))
  have hU : vx_Zq Bundle.tN "UNASSIGNED_STACK" Bundle.steD (q_A base) s s.heap := kU
  have hN : vx_Zq Bundle.tN "SUPPRESSED_SENTINEL" Bundle.listD (q_A base) s s.heap := kN
  by_cases h3 : k = 3
  · have hm : ∀ w ∈ (Bundle.ownAtomsX (q_on 8) ic (q_ex k) 13 q_rx q_nms).filter vx_no, w ∈ q_tw (8, ik, k, ic) := by
      have h9 := List.all_eq_true.mp q_th_13 _ t1
      have h10 : Nat.beq (8, ik, k, ic).2.2.1 3 = true := by show Nat.beq k 3 = true; rw [h3]; rfl
      rw [h10] at h9
      intro w hw9
      exact of_decide_eq_true (List.all_eq_true.mp (show List.all _ _ = true from h9) w hw9)
    exact q_throwX hx9 hb hst (text := tx) (names := q_nms) (is := is9) (sa := sa) (n := n) (A := q_A base) q_rx0 q_rx1 q_rx2 q_rx5 hown (q_fit_e k hk4) q_fit_n hlk hini hstr (fun w hw9 => hw w (hm w hw9)) (hot2 _ hm) hU hN hS hsize d0 d3 d4 d6 d9 htab (Nat.lt_of_lt_of_le (by decide) hfr) hlc hcl hsl hlocks hx hf hc hs
  · have hm : ∀ w ∈ (Bundle.ownAtomsX (q_on 8) ic (q_ex k) 7 Bundle.six q_nms).filter vx_no, w ∈ q_tw (8, ik, k, ic) := by
      have h9 := List.all_eq_true.mp q_th_6 _ t1
      have h10 : Nat.beq (8, ik, k, ic).2.2.1 3 = false := by
        show Nat.beq k 3 = false
        cases hb9 : Nat.beq k 3 with
        | false => rfl
        | true => exact absurd (q_bq hb9) h3
      rw [h10] at h9
      intro w hw9
      exact of_decide_eq_true (List.all_eq_true.mp (show List.all _ _ = true from h9) w hw9)
    exact q_throwX hx9 hb hst (text := tx) (names := q_nms) (is := is9) (sa := sa) (n := n) (A := q_A base) Bundle.six_0 Bundle.six_1 Bundle.six_2 Bundle.six_5 hown (q_fit_e k hk4) q_fit_n hlk hini hstr (fun w hw9 => hw w (hm w hw9)) (hot2 _ hm) hU hN hS hsize d0 d3 d4 d6 d9 htab (Nat.lt_of_lt_of_le (by decide) hfr) hlc hcl hsl hlocks hx hf hc hs
end -- [13.throw]
section -- [14b.runs]
/-! Part 14: whole runs of methods: what the pure machine says of one, its contract says. -/
/-- a method's run: how it can end (with the look at the arguments' width) -/
noncomputable def q_rn (mt : Nat → q_MI) (df : Nat → List q_V) (sL : Nat) (d : Nat) : Nat → List q_V → q_H → q_I → Option (List q_Lf) :=
  Nat.rec (motive := fun _ => Nat → List q_V → q_H → q_I → Option (List q_Lf)) (fun _ _ _ _ => none) (fun _ ih i ar hp iv => q_if (Nat.ble (q_wid ar) (mt i).2.1.1) (match q_it mt df ih sL (mt i) 14 ([(0, q_args ar 0, [], hp, iv, 0, 0)], []) with
    | none => none
    | some z => match z with
      | ([], lf) => some lf
      | (_ :: _, _) => none)) d
section q_itS
variable {mt : Nat → q_MI} {df : Nat → List q_V} {cf : Nat → List q_V → q_H → q_I → Option (List q_Lf)} {sL : Nat} {mi : q_MI}
theorem q_it_s {G : q_C → Prop} {LF : List q_Lf} (hst : ∀ c z, q_step mt df cf sL mi c = some z → (∀ c' ∈ z.1, G c') → (∀ lf ∈ z.2, lf ∈ LF) → G c) :
    ∀ (k : Nat) (a b : List q_C × List q_Lf), q_it mt df cf sL mi k a = some b → (∀ c ∈ b.1, G c) → (∀ lf ∈ b.2, lf ∈ LF) → (∀ c ∈ a.1, G c) ∧ (∀ lf ∈ a.2, lf ∈ LF) := by
  intro k
  induction k with
  | zero =>
    intro a b h h1 h2
    have h : q_one1 mt df cf sL mi a = some b := h
    obtain ⟨l, lf⟩ := a
    cases l with
    | nil =>
      have h : some (([] : List q_C), lf) = some b := h
      cases q_so h
      exact ⟨h1, h2⟩
    | cons c r =>
      have h : (match q_step mt df cf sL mi c with
        | none => none
        | some z => some (q_app z.1 r, q_app z.2 lf)) = some b := h
      cases hs : q_step mt df cf sL mi c with
      | none => rw [hs] at h; cases h
      | some z =>
        rw [hs] at h
        have h : some (q_app z.1 r, q_app z.2 lf) = some b := h
        cases q_so h
        have h1 : ∀ c ∈ q_app z.1 r, G c := h1
        have h2 : ∀ x ∈ q_app z.2 lf, x ∈ LF := h2
        rw [q_app_g] at h1 h2
        refine ⟨fun c' hc => ?_, fun x hx => h2 x (List.mem_append_right _ hx)⟩
        rcases List.mem_cons.mp hc with rfl | hc
        · exact hst _ _ hs (fun c'' h => h1 _ (List.mem_append_left _ h)) (fun x h => h2 _ (List.mem_append_left _ h))
        · exact h1 _ (List.mem_append_right _ hc)
  | succ k ih =>
    intro a b h h1 h2
    have h : (match q_it mt df cf sL mi k a with
      | none => none
      | some z => match z with
        | ([], lf) => some ([], lf)
        | (c :: r, lf) => q_it mt df cf sL mi k (c :: r, lf)) = some b := h
    cases hs : q_it mt df cf sL mi k a with
    | none => rw [hs] at h; cases h
    | some z =>
      rw [hs] at h
      obtain ⟨l, lf⟩ := z
      cases l with
      | nil =>
        have h : some (([] : List q_C), lf) = some b := h
        cases q_so h
        exact ih _ _ hs h1 h2
      | cons c r =>
        have h : q_it mt df cf sL mi k (c :: r, lf) = some b := h
        obtain ⟨g1, g2⟩ := ih _ _ h h1 h2
        exact ih _ _ hs g1 g2
theorem q_rn_s {d i : Nat} {ar : List q_V} {hp : q_H} {iv : q_I} {lf : List q_Lf} (h : q_rn mt df sL (d + 1) i ar hp iv = some lf) :
    q_wid ar ≤ (mt i).2.1.1 ∧ ∀ G : q_C → Prop, (∀ c z, q_step mt df (q_rn mt df sL d) sL (mt i) c = some z → (∀ c' ∈ z.1, G c') → (∀ x ∈ z.2, x ∈ lf) → G c) → G (0, q_args ar 0, [], hp, iv, 0, 0) := by
  have h : q_if (Nat.ble (q_wid ar) (mt i).2.1.1) (match q_it mt df (q_rn mt df sL d) sL (mt i) 14 ([(0, q_args ar 0, [], hp, iv, 0, 0)], []) with
    | none => none
    | some z => match z with
      | ([], lf) => some lf
      | (_ :: _, _) => none) = some lf := h
  obtain ⟨h1, h⟩ := q_if_i h
  refine ⟨q_bl h1, fun G hst => ?_⟩
  cases hs : q_it mt df (q_rn mt df sL d) sL (mt i) 14 ([(0, q_args ar 0, [], hp, iv, 0, 0)], []) with
  | none => rw [hs] at h; cases h
  | some z =>
    rw [hs] at h
    obtain ⟨l, lf2⟩ := z
    cases l with
    | nil =>
      have h : some lf2 = some lf := h
      cases q_so h
      exact (q_it_s hst 14 _ _ hs (fun c hc => by cases hc) (fun x hx => hx)).1 _ List.mem_cons_self
    | cons c r =>
      have h : (none : Option (List q_Lf)) = some lf := h
      cases h
end q_itS
theorem q_args_s {ρ : Nat → Int} {bs : Nat → Nat} {ws : va_W} : ∀ (ar : List q_V) (arR : List Value), q_F2 (q_rv ρ bs ws) ar arR → ∀ n : Nat, q_F2 (q_rl ρ bs ws) (q_args ar n) (lv_args n arR)
  | [], arR, h, n => by rw [q_F2_n h]; trivial
  | a :: ar, arR, h, n => by
    obtain ⟨b, r, rfl, h1, h2⟩ := q_F2_c h
    have hc := q_is2_i h1
    show q_F2 (q_rl ρ bs ws) ((n, a) :: q_args ar (bif q_is2 a.1 then Nat.succ (Nat.succ n) else Nat.succ n)) ((n, b) :: lv_args (if b.category = 2 then n + 2 else n + 1) r)
    rw [hc]
    cases q_is2 a.1
    · exact ⟨⟨rfl, h1⟩, q_args_s ar r h2 (n + 1)⟩
    · exact ⟨⟨rfl, h1⟩, q_args_s ar r h2 (n + 2)⟩
theorem q_slen_s {ρ : Nat → Int} {bs : Nat → Nat} {ws : va_W} : ∀ (ar : List q_V) (arR : List Value), q_F2 (q_rv ρ bs ws) ar arR → (lg_sl arR).length = q_wid ar
  | [], arR, h => by rw [q_F2_n h]; rfl
  | a :: ar, arR, h => by
    obtain ⟨b, r, rfl, h1, h2⟩ := q_F2_c h
    have hc := q_is2_i h1
    have ih := q_slen_s ar r h2
    have e : lg_sl (b :: r) = (if b.category = 2 then [.val b, .second] else [.val b]) ++ lg_sl r := by unfold lg_sl; rw [List.flatMap_cons]
    show _ = bif q_is2 a.1 then Nat.succ (Nat.succ (q_wid ar)) else Nat.succ (q_wid ar)
    rw [e, List.length_append, ih, hc]
    cases q_is2 a.1
    · show 1 + q_wid ar = q_wid ar + 1; omega
    · show 2 + q_wid ar = q_wid ar + 2; omega
section q_cn9
variable {ρ : Nat → Int} {bs : Nat → Nat} {base L : Nat} {xs : Nat → Int32} {D : va_G} {l : Launch}
/-- the ends of a method's run are what its contract says -/
theorem q_ends_m {x : Nat} {p : Program} {e : Env} {s : State} {m : MethodId} {args : Array Value} {below : List Frame} {meth : Method} {c : Code} {lfs : List q_Lf} {ws : va_W} (hi : x < 369) (hX : q_Cx x p l (q_rm x) s m args meth c base bs L xs) (hr : meth.sig.returnType = q_rt x) :
    q_Ends p l e (q_rm x) s m args below meth c (vx_MQ below (q_Qc ρ bs base D ws lfs) (q_XC ρ bs base D ws lfs) args s (q_rm x).cells (q_rm x).slots (q_A base)) ρ bs base D ws x lfs := by
  have hX' := hX
  obtain ⟨hx, hb, hml, hown, hts, hlocks, hnm, htab, hKX, hst, hR, h276⟩ := hX
  refine ⟨?_, ?_, ?_⟩
  · intro lf pc ins st o ws' tys' H locs ls cl sl hlf hdec hsh ho' hK' hP' hD' hS' hW' hE' hc hs hout
    have hq : ∀ t : State, t.heap = H → s.WarmedH t.vm → q_Qc ρ bs base D ws lfs args s (.returned o) t := fun t ht hWm => ⟨⟨lf, hlf, ws', tys', ⟨ho', va_K.moved hWm.alike hK', by rw [ht]; exact hP', hD', hW', hE'⟩, by
      rcases hout with ⟨e0, e1⟩ | ⟨e0, V, e1, hv⟩
      · exact Or.inl ⟨e0, by rw [e1]⟩
      · exact Or.inr ⟨e0, V, by rw [e1], hv⟩⟩, hS'.F ht⟩
    refine vx_ret (W.widen hc hs ?_)
    rcases hsh with ⟨rfl, h1, x9, rfl, rfl⟩ | ⟨rfl, h1, x9, h2, rfl, rfl⟩ | ⟨rfl, h1, x9, rfl, rfl⟩ | ⟨rfl, h1, x9, rfl, rfl⟩ | ⟨rfl, h1, x9, rfl, rfl⟩ | ⟨rfl, ⟨n, h1⟩, v, h2, rfl, rfl⟩ | ⟨rfl, h1, rfl, rfl⟩
    · exact W.iret hx hb (hr.trans h1) hq hS'.2.2 hdec hlocks
    · exact W.zret hx hb (hr.trans h1) (by rcases h2 with rfl | rfl <;> decide +kernel) hq hS'.2.2 hdec hlocks
    · exact W.lret hx hb (hr.trans h1) hq hS'.2.2 hdec hlocks
    · exact W.fret hx hb (hr.trans h1) hq hS'.2.2 hdec hlocks
    · exact W.dret hx hb (hr.trans h1) hq hS'.2.2 hdec hlocks
    · exact W.aret hx hb (hr.trans h1) (Or.inl ⟨n, rfl⟩) h2 hq hS'.2.2 hdec hlocks
    · exact W.vret hx hb (hr.trans h1) hq hS'.2.2 hdec hlocks
  · intro lf k pc ws' tys' H locs ls rest cl sl q9 ce hlf he hk4 ho' hK' hP' hD' hS' hW' hE' hc hs hce hcv hcl hpass
    exact vx_outP hown hlocks (hpass hi) hce hcv hcl (fun t ht hal => ⟨⟨lf, hlf, ws', tys', ⟨ho', va_K.moved hal hK', by rw [ht]; exact hP', hD', hW', hE'⟩, k, hk4, he, rfl⟩, hS'.F ht⟩) hS'.2.2 hc hs
  · intro lf k pc ik ws' tys' H locs ls st cl sl hlf he hk4 ho' hK' hP' hD' hS' hW' hE' hc hs hsz hfr hlc htb hthr
    exact q_thrown hX' hthr hk4 hS' hsz hfr hlc hc hs (htb hi) (fun t hal g1 g2 => ⟨⟨lf, hlf, ws', tys', ⟨ho', va_K.moved hal hK', hP'.kept (fun k9 q hk9 => g2 q.1 (vx_lt hP' hk9)), hD', hW', hE'⟩, k, hk4, he, rfl⟩,
      Nat.le_trans hS'.1 g1, fun q h1 h2 => (g2 q (Nat.lt_of_lt_of_le h1 hS'.1)).trans (hS'.2.1 q h1 h2)⟩) hS'.2.2 hc hs
/-- the body of a method -/
theorem q_body (hr : q_rg ρ) (hxs : ∀ j, j < L → Int32.ofInt (ρ j) = xs j) (hst : l.stackTraces = false) {d : Nat} (hcf : q_Con ρ bs base L xs D l (q_rn q_mt q_df L d))
    {x : Nat} {ar : List q_V} {hp : q_H} {iv : q_I} {lfs : List q_Lf} (h : q_rn q_mt q_df L (d + 1) x ar hp iv = some lfs) (hx9 : x < 369) (ho : q_ok ρ iv) {ws : va_W} {tys : List (ClassId × FieldType)} {arR : List Value} (hD : va_D (q_A base) ws) (hW : q_W ρ bs ws tys hp) (hF : q_F2 (q_rv ρ bs ws) ar arR)
    {p : Program} {e : Env} {s s₁ : State} {m : MethodId} {args : Array Value} {below : List Frame} {meth : Method} {c : Code} (B : BodyLoose p l (q_y x) (headSpec (q_wsM x) (q_rm x)) (q_bc x) (q_mL x) (q_rt x) e s m args below meth c s₁) (hml : c.maxLocals = q_mL x) (htab : c.exceptionTable.toList = tableOf (q_hh x))
    (hP : q_Pre bs base L xs D ws tys arR args s) :
    W p l e (headSpec (q_wsM x) (q_rm x)).room s m args below meth c s.heap [] 0 0 (vx_MQ below (q_Qc ρ bs base D ws lfs) (q_XC ρ bs base D ws lfs) args s (q_rm x).cells (q_rm x).slots (q_A base)) (entryFrame m args (q_mL x)) := by
  obtain ⟨rfl, hK, hPP, hKX⟩ := hP
  obtain ⟨hwid, hrun⟩ := q_rn_s h
  have hmv := q_mv_ok x hx9
  obtain ⟨a1, hmv⟩ := q_and_i hmv
  obtain ⟨a2, hmv⟩ := q_and_i hmv
  obtain ⟨a3, hmv⟩ := q_and_i hmv
  obtain ⟨a4, hmv⟩ := q_and_i hmv
  obtain ⟨a5, hmv⟩ := q_and_i hmv
  obtain ⟨a6, hmv⟩ := q_and_i hmv
  obtain ⟨a7, hmv⟩ := q_and_i hmv
  obtain ⟨a8, a9⟩ := q_and_i hmv
  have hts0 := atoms_spec (ws := q_wsM x) B.pre
  have hts : ∀ w ∈ q_GL2, w.before arR.toArray s = true := fun w hw => hts0 w (List.mem_cons_of_mem _ hw)
  have hown : s.vm.findClass (q_on (q_cn x)) = some m.cls := by
    rw [← of_decide_eq_true a2]
    exact findClass_of_methodNamed B.named
  have hnm : meth.name = (q_y x).name := (name_of_methodNamed B.named B.method).1
  have hCx : q_Cx x p l (q_rm x) s m arR.toArray meth c base bs L xs := ⟨B.exec, B.bytes, hml, hown, hts, B.notSynchronized, fun _ => hnm, fun _ => htab, hKX, hst, rfl, Or.inl hx9⟩
  have hl := lv_entry arR (n := q_mL x) (by rw [q_slen_s ar arR hF, ← q_bq a1]; exact hwid)
  rw [lg_entry_eq]
  generalize (lg_sl arR ++ List.replicate (q_mL x - (lg_sl arR).length) Slot.unset).toArray = ls at hl ⊢
  have hmain := hrun (fun c9 => q_G (q_w p l e (q_rm x) s m arR.toArray below meth c (vx_MQ below (q_Qc ρ bs base D ws lfs) (q_XC ρ bs base D ws lfs) arR.toArray s (q_rm x).cells (q_rm x).slots (q_A base))) q_cl (q_mL x) ρ bs base D ws s c9)
    (fun c9 z hz hG hLF => q_step_s (Nat.lt_succ_of_lt hx9) hCx hr rfl hxs (q_bq a7) (q_hrel_i a8) hcf (q_ends_m hx9 hCx B.returns) hz hG hLF)
  exact hmain ho ws tys s.heap [] ls (lv_args 0 arR) [] hK hPP hD va_S.rf hW (q_Ex.rf ws) (q_args_s ar arR hF 0) trivial hl
/-- every run of a method is its contract -/
theorem q_con_s (hr : q_rg ρ) (hxs : ∀ j, j < L → Int32.ofInt (ρ j) = xs j) (hst : l.stackTraces = false) : ∀ d : Nat, q_Con ρ bs base L xs D l (q_rn q_mt q_df L d) := by
  intro d
  induction d with
  | zero => intro x ar hp iv lfs h; cases h
  | succ d ih =>
    intro x ar hp iv lfs h hx9 ho ws tys arR hD hW hF
    have hmv := q_mv_ok x hx9
    obtain ⟨a1, hmv⟩ := q_and_i hmv
    obtain ⟨a2, hmv⟩ := q_and_i hmv
    obtain ⟨a3, hmv⟩ := q_and_i hmv
    cases hh : q_hh x with
    | nil =>
      refine vx_ofW (cc := q_bc x) (maxL := q_mL x) (ret := q_rt x) (ws' := q_GL2) a3 (by unfold q_wsM; rw [q_cw_c hh]) ?_
      intro p e s m args below meth c s₁ B hml ht hP
      refine q_body hr hxs hst ih h hx9 ho hD hW hF B hml ?_ hP
      rw [hh]
      cases hl : c.exceptionTable.toList with
      | nil => rfl
      | cons a r => exact (ht a (by rw [hl]; exact List.mem_cons_self)).elim
    | cons a r =>
      refine vx_ofWH (cc := q_bc x) (maxL := q_mL x) (ret := q_rt x) (hh := q_hh x) (ws' := q_GL2) a3 (by unfold q_wsM; rw [q_cw_h hh]) ?_
      intro p e s m args below meth c s₁ B hml hP
      refine q_body hr hxs hst ih h hx9 ho hD hW hF B hml ?_ hP
      refine vx_table (x := q_y x) B (y := q_y x) (bytes := q_bc x) (maxL' := q_mL x) (ret' := q_rt x) ?_
      have hc := atoms_spec (ws := q_wsM x) B.pre _ List.mem_cons_self
      rw [q_cw_h hh] at hc
      exact hc
end q_cn9
end -- [14b.runs]
