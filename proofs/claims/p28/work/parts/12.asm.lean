/-! Part 12: one instruction of the pure machine is the machine's. Printed in part by wip/tools/gen12.py. -/
section q_ldcW
variable {p : Program} {l : Launch} {e : Env} {R : Room} {s : State} {m : MethodId} {args : Array Value} {below : List Frame} {meth : Method} {c : Code} {H : Heap} {locs : List Loc} {cells slots : Nat} {Q : State → Prop}
variable {cc : ByteArray} {pc : Nat} {ls : Array Slot} {rest : List Value}
theorem q_ldcSw (hexec : p.tables.exec = Jvm.exec) (hb : c.code = cc) {own tx : String} {index q : Nat} (hown : s.vm.findClass own = some m.cls) (hZ : vk_R own index tx q s) (hdg : decode cc pc = .ok (.ldc_w index, 3))
    (k : W p l e R s m args below meth c H locs cells slots Q (F0 m (pc + 3) ls (.ref q :: rest))) : W p l e R s m args below meth c H locs cells slots Q (F0 m pc ls rest) := by
  intro T hT X
  obtain ⟨t, a1, b1⟩ := k T hT X
  exact ⟨t, Jvm.Stand.ldcStringW X hexec hown (text := tx) (a := q) hZ.1 hZ.2 (g := F0 m pc ls rest) rfl (by rw [hb]; exact hdg) t a1, b1⟩
end q_ldcW
abbrev q_w (p : Program) (l : Launch) (e : Env) (R : Room) (s : State) (m : MethodId) (args : Array Value) (below : List Frame) (meth : Method) (c0 : Code) (Q : State → Prop) : Heap → List Loc → Nat → Nat → Nat → Array Slot → List Value → Prop :=
  fun H locs cl sl pc ls sR => W p l e R s m args below meth c0 H locs cl sl Q (F0 m pc ls sR)
theorem q_is4_i {ρ : Nat → Int} {bs : Nat → Nat} {ws : va_W} {v : q_V} {V : Value} (h : Nat.beq 4 v.1 = true) (hv : q_rv ρ bs ws v V) : ∃ x, V = .float x := by
  obtain ⟨t, z⟩ := v
  have e : 4 = t := q_bq h
  subst e
  exact ⟨_, hv⟩
theorem q_is5_i {ρ : Nat → Int} {bs : Nat → Nat} {ws : va_W} {v : q_V} {V : Value} (h : Nat.beq 5 v.1 = true) (hv : q_rv ρ bs ws v V) : ∃ x, V = .double x := by
  obtain ⟨t, z⟩ := v
  have e : 5 = t := q_bq h
  subst e
  exact ⟨_, hv⟩
theorem q_uin : ∀ n, n < 10 → ∀ w ∈ u_ws (q_on n) (q_cF n) (q_cN n), w ∈ q_GL2 := q_10 (fun _ h => q_g1 (q_G_u0_m h)) (fun _ h => q_g1 (q_G_u1_m h)) (fun _ h => q_g1 (q_G_u2_m h)) (fun _ h => q_g1 (q_G_u3_m h)) (fun _ h => q_g1 (q_G_u4_m h)) (fun _ h => q_g1 (q_G_u5_m h)) (fun _ h => q_g1 (q_G_u6_m h)) (fun _ h => q_g1 (q_G_u7_m h)) (fun _ h => q_g1 (q_G_u8_m h)) (fun _ h => q_g1 (q_G_u9_m h))
theorem q_fit_s {ρ : Nat → Int} {bs : Nat → Nat} {ws : va_W} {ty : FieldType} {t : Nat} {a : q_V} {V : Value} (ht : q_tc ty = t) (h : q_fit t a = true) (hv : q_rv ρ bs ws a V) : narrow ty V = V ∧ fits ty V = true := by
  have r3 : ∀ {a : q_V} {V : Value}, Nat.beq a.1 2 = true → q_rv ρ bs ws a V → ∃ x, V = .ref x := fun h hv => q_isR_i (by unfold q_isR; rw [h]; rfl) hv
  cases ty with
  | int =>
    cases ht
    obtain ⟨x, rfl⟩ := q_isI_i (show q_isI a.1 = true from h) hv
    exact ⟨rfl, rfl⟩
  | boolean =>
    cases ht
    obtain ⟨h1, h2⟩ := q_and_i (show (bif Nat.beq a.1 0 then (bif q_ieq a.2 0 then true else q_ieq a.2 1) else false) = true from h)
    obtain ⟨t, z⟩ := a
    have e : t = 0 := q_bq h1
    subst e
    have e2 : V = .int (Int32.ofInt z) := hv
    subst e2
    rcases q_or_i h2 with h3 | h3
    · have e3 : z = 0 := q_ieq_i h3
      subst e3
      exact ⟨by decide +kernel, by decide +kernel⟩
    · have e3 : z = 1 := q_ieq_i h3
      subst e3
      exact ⟨by decide +kernel, by decide +kernel⟩
  | long =>
    cases ht
    obtain ⟨x, rfl⟩ := q_isJ_i (show q_isJ a.1 = true from h) hv
    exact ⟨rfl, rfl⟩
  | object n =>
    cases ht
    obtain ⟨x, rfl⟩ := r3 (show Nat.beq a.1 2 = true from h) hv
    exact ⟨rfl, rfl⟩
  | array n =>
    cases ht
    obtain ⟨x, rfl⟩ := r3 (show Nat.beq a.1 2 = true from h) hv
    exact ⟨rfl, rfl⟩
  | _ => cases ht; cases h
theorem q_df_l : ∀ n, n < 10 → (q_df n).length = q_cN n := q_10 rfl rfl rfl rfl rfl rfl rfl rfl rfl rfl
theorem q_df_s {ρ : Nat → Int} {bs : Nat → Nat} : ∀ n, n < 10 → ∀ ws, q_F2 (q_rv ρ bs ws) (q_df n) (q_dfR n) := q_10 (fun _ => And.intro rfl (And.intro rfl (And.intro rfl (And.intro rfl (And.intro rfl (And.intro rfl (And.intro rfl (True.intro)))))))) (fun _ => And.intro rfl (And.intro rfl (And.intro rfl (And.intro rfl (And.intro rfl (And.intro rfl (And.intro rfl (And.intro rfl (And.intro rfl (And.intro rfl (And.intro rfl (And.intro rfl (And.intro rfl (And.intro rfl (And.intro rfl (True.intro)))))))))))))))) (fun _ => And.intro rfl (And.intro rfl (True.intro))) (fun _ => And.intro rfl (And.intro rfl (And.intro rfl (True.intro)))) (fun _ => And.intro rfl (And.intro rfl (And.intro rfl (And.intro rfl (And.intro rfl (And.intro rfl (And.intro rfl (And.intro rfl (And.intro rfl (And.intro rfl (And.intro rfl (True.intro)))))))))))) (fun _ => And.intro rfl (And.intro rfl (And.intro rfl (And.intro rfl (And.intro rfl (And.intro rfl (And.intro rfl (True.intro)))))))) (fun _ => And.intro rfl (And.intro rfl (And.intro rfl (And.intro rfl (And.intro rfl (And.intro rfl (And.intro rfl (And.intro rfl (And.intro rfl (And.intro rfl (And.intro rfl (True.intro)))))))))))) (fun _ => And.intro rfl (And.intro rfl (True.intro))) (fun _ => And.intro rfl (And.intro rfl (And.intro rfl (And.intro rfl (And.intro rfl (And.intro rfl (And.intro rfl (And.intro rfl (And.intro rfl (And.intro rfl (True.intro))))))))))) (fun _ => And.intro rfl (And.intro rfl (And.intro rfl (And.intro rfl (And.intro rfl (And.intro rfl (And.intro rfl (And.intro rfl (And.intro rfl (And.intro rfl (And.intro rfl (And.intro rfl (And.intro rfl (And.intro rfl (And.intro rfl (And.intro rfl (And.intro rfl (And.intro rfl (And.intro rfl (And.intro rfl (And.intro rfl (And.intro rfl (And.intro rfl (And.intro rfl (And.intro rfl (And.intro rfl (And.intro rfl (And.intro rfl (True.intro)))))))))))))))))))))))))))))
theorem q_hrel_i {cn : Nat} : ∀ {l r : List (Nat × Nat × Nat × Nat)}, q_hrelB cn l r = true → q_F2 (q_hrel cn) l r
  | [], [], _ => trivial
  | a :: l, b :: r, h => by
    obtain ⟨h1, h⟩ := q_and_i (show q_an _ _ = true from h)
    obtain ⟨h2, h⟩ := q_and_i h
    obtain ⟨h3, h⟩ := q_and_i h
    obtain ⟨h4, h⟩ := q_and_i h
    obtain ⟨h5, h⟩ := q_and_i h
    obtain ⟨h6, h⟩ := q_and_i h
    have h4' := q_bl h4
    exact ⟨⟨q_bq h1, q_bq h2, q_bq h3, by omega, q_bl h5, q_m3_i h6⟩, q_hrel_i h⟩
  | [], _ :: _, h => by cases h
  | _ :: _, [], h => by cases h
noncomputable def q_io1 (e : q_E) : Bool := match e with
  | (ins, len, _, _, _) => match ins with
    | .ior => Nat.beq len 1
    | .ishl => Nat.beq len 1
    | _ => true
noncomputable def q_io (i : Nat) : Bool := (List.range (q_mt i).1.1).all (fun pc => q_io1 ((q_mt i).1.2 pc))
theorem q_io_0 : (List.range 369).all q_io = true := by decide +kernel
theorem q_io_1 : q_io 369 = true := by decide +kernel
theorem q_io_s : ∀ i, i < 370 → ∀ pc, pc < (q_mt i).1.1 → q_io1 ((q_mt i).1.2 pc) = true := by
  intro i hi pc hpc
  have h : q_io i = true := by
    by_cases c : i < 369
    · exact List.all_eq_true.mp q_io_0 i (List.mem_range.mpr c)
    · have e : i = 369 := by omega
      rw [e]; exact q_io_1
  exact List.all_eq_true.mp h pc (List.mem_range.mpr hpc)
def q_nop (ins : Instr) : Bool := match ins with
  | .nop => true
  | _ => false
theorem q_val_z {i pc : Nat} {ins : Instr} {len x y : Nat} {v : Int} (h : q_val i pc (ins, len, x, y, v) = true) (hl : Nat.beq len 0 = true) : q_nop ins = true := by
  have h9 : (bif Nat.beq len 0 then q_nop ins else q_an (decide (decode (q_bc i) pc = .ok (ins, len))) (q_vx i pc ins len x y v)) = true := h
  rw [hl] at h9
  exact h9
theorem q_val_nz {i pc : Nat} {ins : Instr} {len x y : Nat} {v : Int} (h : q_val i pc (ins, len, x, y, v) = true) (hl : Nat.beq len 0 = false) : q_an (decide (decode (q_bc i) pc = .ok (ins, len))) (q_vx i pc ins len x y v) = true := by
  have h9 : (bif Nat.beq len 0 then q_nop ins else q_an (decide (decode (q_bc i) pc = .ok (ins, len))) (q_vx i pc ins len x y v)) = true := h
  rw [hl] at h9
  exact h9
/-- what holds all through a method's run -/
def q_Cx (i : Nat) (p : Program) (l : Launch) (R : Room) (s : State) (m : MethodId) (args : Array Value) (meth : Method) (c0 : Code) (base : Nat) (bs : Nat → Nat) (L : Nat) (xs : Nat → Int32) : Prop :=
  p.tables.exec = Jvm.exec ∧ c0.code = q_bc i ∧ c0.maxLocals = q_mL i ∧ s.vm.findClass (q_on (q_cn i)) = some m.cls ∧ (∀ w ∈ q_GL2, w.before args s = true) ∧ meth.locks = false ∧ (q_cn i < 10 → meth.name = (q_y i).name) ∧ (i < 369 → c0.exceptionTable.toList = tableOf (q_hh i)) ∧ q_KX base bs L xs s ∧ l.stackTraces = false ∧ R = q_rm i ∧ (i < 369 ∨ (q_mt i).2.2.2 = [])
/-- an answer: what stands on the stack, and what goes to the caller -/
def q_rsh (i : Nat) (ins : Instr) (st : List Value) (o : Option Value) : Prop :=
  (ins = .ireturn ∧ q_rt i = some .int ∧ ∃ x, st = [.int x] ∧ o = some (.int x)) ∨ (ins = .ireturn ∧ q_rt i = some .boolean ∧ ∃ x : Int32, (x = 0 ∨ x = 1) ∧ st = [.int x] ∧ o = some (.int x)) ∨
  (ins = .lreturn ∧ q_rt i = some .long ∧ ∃ x, st = [.long x] ∧ o = some (.long x)) ∨ (ins = .freturn ∧ q_rt i = some .float ∧ ∃ x, st = [.float x] ∧ o = some (.float x)) ∨ (ins = .dreturn ∧ q_rt i = some .double ∧ ∃ x, st = [.double x] ∧ o = some (.double x)) ∨
  (ins = .areturn ∧ (∃ n, q_rt i = some (.object n)) ∧ ∃ v, (v = .null ∨ ∃ a, v = .ref a) ∧ st = [v] ∧ o = some v) ∨ (ins = .return_ ∧ q_rt i = none ∧ st = [] ∧ o = none)
/-- a throw's place -/
def q_thr (i pc k ik : Nat) : Prop := q_cn i = 8 ∧ ∃ ic is9 : Nat, (8, ik, k, ic) ∈ q_TH ∧ (8, ik, k) ∈ q_XL ∧ (8, is9) ∈ q_SL ∧ decode (q_bc i) pc = .ok (.new ik, 3) ∧ decode (q_bc i) (pc + 3) = .ok (.dup, 1) ∧
  ((decode (q_bc i) (pc + 4) = .ok (.ldc is9, 2) ∧ decode (q_bc i) (pc + 6) = .ok (.invokespecial ic, 3) ∧ decode (q_bc i) (pc + 9) = .ok (.athrow, 1)) ∨
   (decode (q_bc i) (pc + 4) = .ok (.ldc_w is9, 3) ∧ decode (q_bc i) (pc + 7) = .ok (.invokespecial ic, 3) ∧ decode (q_bc i) (pc + 10) = .ok (.athrow, 1)))
section q_asm
variable {p : Program} {l : Launch} {e : Env} {R : Room} {s : State} {m : MethodId} {args : Array Value} {below : List Frame} {meth : Method} {c0 : Code} {Q : State → Prop}
variable {ρ : Nat → Int} {bs : Nat → Nat} {base L : Nat} {xs : Nat → Int32} {D : va_G} {ws0 : va_W} {i : Nat} {LF : List q_Lf}
/-- the ends of a run, as its caller wants them -/
def q_Ends (p : Program) (l : Launch) (e : Env) (R : Room) (s : State) (m : MethodId) (args : Array Value) (below : List Frame) (meth : Method) (c0 : Code) (Q : State → Prop) (ρ : Nat → Int) (bs : Nat → Nat) (base : Nat) (D : va_G) (ws0 : va_W) (i : Nat) (LF : List q_Lf) : Prop :=
  (∀ (lf : q_Lf) (pc : Nat) (ins : Instr) (st : List Value) (o : Option Value) (ws : va_W) (tys : List (ClassId × FieldType)) (H : Heap) (locs : List Loc) (ls : Array Slot) (cl sl : Nat), lf ∈ LF → decode (q_bc i) pc = .ok (ins, 1) → q_rsh i ins st o →
    q_ok ρ lf.2.2.2 → va_K D q_cl tys s → va_P D q_cl ws H → va_D (q_A base) ws → va_S (q_A base) s.heap H locs → q_W ρ bs ws tys lf.2.2.1 → q_Ex ws0 ws → cl ≤ R.cells → sl ≤ R.slots →
    ((lf.1 = 0 ∧ o = none) ∨ (lf.1 = 1 ∧ ∃ V, o = some V ∧ q_rv ρ bs ws lf.2.1 V)) → W p l e R s m args below meth c0 H locs cl sl Q (F0 m pc ls st)) ∧
  (∀ (lf : q_Lf) (k pc : Nat) (ws : va_W) (tys : List (ClassId × FieldType)) (H : Heap) (locs : List Loc) (ls : Array Slot) (rest : List Value) (cl sl : Nat) (q9 : Addr) (ce : Cell), lf ∈ LF → lf.1 = k + 2 → k < 4 →
    q_ok ρ lf.2.2.2 → va_K D q_cl tys s → va_P D q_cl ws H → va_D (q_A base) ws → va_S (q_A base) s.heap H locs → q_W ρ bs ws tys lf.2.2.1 → q_Ex ws0 ws → cl ≤ R.cells → sl ≤ R.slots →
    H[q9]? = some ce → ce.vm = .none → s.vm.findClass (q_ex k) = some ce.cls → (i < 369 → ∀ z ∈ c0.exceptionTable.toList, q_pass (q_on (q_cn i)) args s pc k z) → vx_W p l e R s m args below meth c0 H locs cl sl Q (F0 m pc ls rest) q9) ∧
  (∀ (lf : q_Lf) (k pc ik : Nat) (ws : va_W) (tys : List (ClassId × FieldType)) (H : Heap) (locs : List Loc) (ls : Array Slot) (st : List Value) (cl sl : Nat), lf ∈ LF → lf.1 = k + 2 → k < 4 →
    q_ok ρ lf.2.2.2 → va_K D q_cl tys s → va_P D q_cl ws H → va_D (q_A base) ws → va_S (q_A base) s.heap H locs → q_W ρ bs ws tys lf.2.2.1 → q_Ex ws0 ws → cl + 1 ≤ R.cells → sl + 6 ≤ R.slots → ls.size = c0.maxLocals →
    6 ≤ R.frames → (st.map fun v => v.category).sum + 82 ≤ R.locals → (i < 369 → c0.exceptionTable.toList = []) → q_thr i pc k ik → W p l e R s m args below meth c0 H locs cl sl Q (F0 m pc ls st))
theorem q_ret_i {k : Nat} {P : Nat → Bool} {b : Bool} {mi : q_MI} {st : List q_V} {hp : q_H} {iv : q_I} {cl sl : Nat} {z : List q_C × List q_Lf} (h : q_ret k P b mi st hp iv cl sl = some z) :
    ∃ a, st = [a] ∧ z = ([], [(1, a, hp, iv)]) ∧ mi.2.1.2.2.2 = k ∧ P a.1 = true ∧ cl ≤ mi.2.2.1.2.2.1 ∧ sl ≤ mi.2.2.1.2.2.2 ∧ (b = true → a.2 = 0 ∨ a.2 = 1) := by
  obtain ⟨q, h1, h⟩ := q_bd_i h
  obtain ⟨h2, h⟩ := q_if_i h
  cases q_so h
  obtain ⟨h3, h4⟩ := q_and_i h2
  obtain ⟨h5, h6⟩ := q_and_i h4
  obtain ⟨h7, h8⟩ := q_and_i h6
  obtain ⟨h9, h10⟩ := q_and_i h8
  obtain ⟨h11, h12⟩ := q_and_i h10
  have e := q_pop_i h1
  have e2 : q.2 = [] := by
    cases hq : q.2 with
    | nil => rfl
    | cons a r => rw [hq] at h11; cases h11
  rw [e2] at e
  refine ⟨q.1, e, rfl, q_bq h3, h5, q_bl h7, q_bl h9, fun hb => ?_⟩
  rw [hb] at h12
  rcases q_or_i h12 with h13 | h13
  · exact Or.inl (q_ieq_i h13)
  · exact Or.inr (q_ieq_i h13)
theorem q_rkk_i {r : Option FieldType} {k : Nat} (h : q_rkk r = k) : (k = 0 → r = none) ∧ (k = 1 → r = some .int) ∧ (k = 2 → r = some .boolean) ∧ (k = 3 → r = some .long) ∧ (k = 4 → r = some .float) ∧ (k = 5 → r = some .double) ∧ (k = 6 → ∃ n, r = some (.object n)) := by
  subst h
  cases r with
  | none => exact ⟨fun _ => rfl, fun h => (by cases h), fun h => (by cases h), fun h => (by cases h), fun h => (by cases h), fun h => (by cases h), fun h => (by cases h)⟩
  | some t => cases t <;> exact ⟨fun h => (by first | rfl | cases h), fun h => (by first | rfl | cases h), fun h => (by first | rfl | cases h), fun h => (by first | rfl | cases h), fun h => (by first | rfl | cases h), fun h => (by first | rfl | cases h), fun h => (by first | exact ⟨_, rfl⟩ | cases h)⟩

theorem q_cw_in : ∀ x, x < 369 → q_cw x ∈ q_GL2 := by
  intro x hx
  have key : ∀ a n : Nat, a ≤ x → x < a + n → q_cw x ∈ (List.range' a n).map q_cw := fun a n h1 h2 => List.mem_map.mpr ⟨x, List.mem_range'_1.mpr ⟨h1, h2⟩, rfl⟩
  by_cases c0 : x < 16
  · exact q_g1 (q_G_m0_m (key 0 16 (by omega) (by omega)))
  by_cases c1 : x < 32
  · exact q_g1 (q_G_m1_m (key 16 16 (by omega) (by omega)))
  by_cases c2 : x < 48
  · exact q_g1 (q_G_m2_m (key 32 16 (by omega) (by omega)))
  by_cases c3 : x < 64
  · exact q_g1 (q_G_m3_m (key 48 16 (by omega) (by omega)))
  by_cases c4 : x < 80
  · exact q_g1 (q_G_m4_m (key 64 16 (by omega) (by omega)))
  by_cases c5 : x < 96
  · exact q_g1 (q_G_m5_m (key 80 16 (by omega) (by omega)))
  by_cases c6 : x < 112
  · exact q_g1 (q_G_m6_m (key 96 16 (by omega) (by omega)))
  by_cases c7 : x < 128
  · exact q_g1 (q_G_m7_m (key 112 16 (by omega) (by omega)))
  by_cases c8 : x < 144
  · exact q_g1 (q_G_m8_m (key 128 16 (by omega) (by omega)))
  by_cases c9 : x < 160
  · exact q_g1 (q_G_m9_m (key 144 16 (by omega) (by omega)))
  by_cases c10 : x < 176
  · exact q_g1 (q_G_m10_m (key 160 16 (by omega) (by omega)))
  by_cases c11 : x < 192
  · exact q_g1 (q_G_m11_m (key 176 16 (by omega) (by omega)))
  by_cases c12 : x < 208
  · exact q_g1 (q_G_m12_m (key 192 16 (by omega) (by omega)))
  by_cases c13 : x < 224
  · exact q_g1 (q_G_m13_m (key 208 16 (by omega) (by omega)))
  by_cases c14 : x < 240
  · exact q_g1 (q_G_m14_m (key 224 16 (by omega) (by omega)))
  by_cases c15 : x < 256
  · exact q_g1 (q_G_m15_m (key 240 16 (by omega) (by omega)))
  by_cases c16 : x < 272
  · exact q_g1 (q_G_m16_m (key 256 16 (by omega) (by omega)))
  by_cases c17 : x < 288
  · exact q_g1 (q_G_m17_m (key 272 16 (by omega) (by omega)))
  by_cases c18 : x < 304
  · exact q_g1 (q_G_m18_m (key 288 16 (by omega) (by omega)))
  by_cases c19 : x < 320
  · exact q_g1 (q_G_m19_m (key 304 16 (by omega) (by omega)))
  by_cases c20 : x < 336
  · exact q_g1 (q_G_m20_m (key 320 16 (by omega) (by omega)))
  by_cases c21 : x < 352
  · exact q_g1 (q_G_m21_m (key 336 16 (by omega) (by omega)))
  exact q_g1 (q_G_m22_m (key 352 17 (by omega) (by omega)))
theorem q_IL_s : ∀ x ∈ q_IL, q_m1 q_ST x = false := by decide +kernel
theorem q_VL_n : ∀ x ∈ q_VL, q_m1 q_ST x = false := by decide +kernel
theorem q_max_s (a b : Int) : (if Int32.ofInt a < Int32.ofInt b then Int32.ofInt b else Int32.ofInt a) = Int32.ofInt (bif q_ile (q_w32 a) (q_w32 b) then (bif true then b else a) else (bif true then a else b)) := by
  have hl : Int32.ofInt a < Int32.ofInt b ↔ q_w32 a < q_w32 b := by rw [Int32.lt_iff_toInt_lt, q_w32_m, q_w32_m]
  cases h : q_ile (q_w32 a) (q_w32 b) with
  | true =>
    have h1 := q_ile_i h
    by_cases c : q_w32 a < q_w32 b
    · rw [if_pos (hl.mpr c)]; rfl
    · rw [if_neg (fun h => c (hl.mp h))]
      have : q_w32 a = q_w32 b := by omega
      show Int32.ofInt a = Int32.ofInt b
      rw [← q_o32 a, this, q_o32]
  | false =>
    have h1 := q_ile_n h
    rw [if_neg (fun h => by have := hl.mp h; omega)]; rfl
theorem q_min_s (a b : Int) : (if Int32.ofInt b < Int32.ofInt a then Int32.ofInt b else Int32.ofInt a) = Int32.ofInt (bif q_ile (q_w32 a) (q_w32 b) then (bif false then b else a) else (bif false then a else b)) := by
  have hl : Int32.ofInt b < Int32.ofInt a ↔ q_w32 b < q_w32 a := by rw [Int32.lt_iff_toInt_lt, q_w32_m, q_w32_m]
  cases h : q_ile (q_w32 a) (q_w32 b) with
  | true =>
    have h1 := q_ile_i h
    rw [if_neg (fun h => by have := hl.mp h; omega)]; rfl
  | false =>
    have h1 := q_ile_n h
    rw [if_pos (hl.mpr h1)]; rfl
theorem q_obj_c {ws : va_W} {H : Heap} {k a ci : Nat} {fs : List Value} (hP : va_P D q_cl ws H) (he : ws[k]? = some (a, .inr (ci, fs))) : ci < 10 := by
  obtain ⟨r, hr, -⟩ := hP k _ he
  exact (List.getElem?_eq_some_iff.mp hr).1
theorem q_csw {x idx n : Nat} {own : String} (hfr : (q_rm x).frames + 1 ≤ R.frames ∧ 8 + (q_mL x + 11) + (q_rm x).locals ≤ R.locals) (c1 : ∀ w ∈ q_wsM x, ∀ (a' : Array Value) (U : State), s.WarmedH U.vm → w.before a' U = true) (hc : q_cw x = .codeWith (q_y x) (q_bc x) (q_mL x) (q_rt x) (q_hh x)) (c2 : (q_cw x).before args s = true) (c3 : (Cond.initialized (q_y x).cls).before args s = true)
    (c4 : (q_y x).cls ≠ "java/lang/invoke/MethodHandle" ∧ (q_y x).cls ≠ "java/lang/invoke/VarHandle") (hn : ∀ sig, parseMethodDescriptor (q_y x).desc = some sig → n = sig.parameters.length) (hl : (Cond.methodLink own idx (q_y x)).before args s = true) (hst : (Cond.static (q_y x)).before args s = true) :
    vx_CSW R s args own idx (q_y x) (q_bc x) (q_mL x) (q_rt x) (q_hh x) (q_wsM x) (q_rm x) (q_rm x).cells (q_rm x).slots n :=
  ⟨⟨rfl, rfl, hfr.1, hfr.2, c1, by rw [← hc]; exact List.mem_cons_self⟩, by rw [← hc]; exact c2, c3, c4, hn, hl, hst⟩
theorem q_IL_n : ∀ x ∈ q_IL, q_rt x = none := by decide +kernel
/-- what is known of a callee -/
theorem q_callee {x : Nat} (hx9 : x < 369) (hts : ∀ w ∈ q_GL2, w.before args s = true) : (∀ w ∈ q_wsM x, ∀ (a' : Array Value) (U : State), s.WarmedH U.vm → w.before a' U = true) ∧ (q_cw x).before args s = true ∧ (Cond.initialized (q_y x).cls).before args s = true ∧
    ((q_y x).cls ≠ "java/lang/invoke/MethodHandle" ∧ (q_y x).cls ≠ "java/lang/invoke/VarHandle") ∧ (q_y x).cls = q_on (q_cn x) ∧ (q_mt x).2.1.1 = q_mL x ∧ q_cn x < 11 ∧
    (∀ sig, parseMethodDescriptor (q_y x).desc = some sig → (bif q_m1 q_ST x then (q_mt x).2.1.2.2.1 else (q_mt x).2.1.2.2.1 - 1) = sig.parameters.length) ∧ (q_m1 q_ST x = true ∨ 1 ≤ (q_mt x).2.1.2.2.1) := by
  have h := q_mv_ok x hx9
  obtain ⟨a1, h⟩ := q_and_i h
  obtain ⟨a2, h⟩ := q_and_i h
  obtain ⟨a3, h⟩ := q_and_i h
  obtain ⟨a4, h⟩ := q_and_i h
  obtain ⟨a5, h⟩ := q_and_i h
  obtain ⟨a6, h⟩ := q_and_i h
  obtain ⟨a7, h⟩ := q_and_i h
  obtain ⟨a8, a9⟩ := q_and_i h
  have b2 := of_decide_eq_true a2
  have b5 := of_decide_eq_true a5
  have hsub : ∀ w ∈ q_wsM x, w ∈ q_GL2 := fun w hw => (List.mem_cons.mp hw).elim (fun e => by rw [e]; exact q_cw_in x hx9) (fun h => h)
  have hc : q_cn x < 11 := q_bl a9
  refine ⟨fun w hw a' U hW => word_at hW (q_GL2_g w (hsub w hw)).2 (hts w (hsub w hw)), hts _ (q_cw_in x hx9), ?_, of_decide_eq_true a4, b2, q_bq a1, hc, fun sig hs => ?_, (q_or_i a6).imp id q_bl⟩
  · rw [b2]
    exact hts _ (q_g1 (q_G_t_m (List.mem_map.mpr ⟨q_cn x, List.mem_range.mpr hc, rfl⟩)))
  · rw [hs] at b5
    exact (Option.some.inj b5).symm
theorem q_nh_i {x : Nat} (h : q_nh x = true) : q_hh x = [] := by
  unfold q_nh at h
  cases hq : q_hh x with
  | nil => rfl
  | cons a t => rw [hq] at h; cases h
theorem q_nh_n {x : Nat} (h : q_nh x = false) : ∃ a t, q_hh x = a :: t := by
  unfold q_nh at h
  cases hq : q_hh x with
  | nil => rw [hq] at h; cases h
  | cons a t => exact ⟨a, t, rfl⟩
theorem q_cw_c {x : Nat} (h : q_hh x = []) : q_cw x = .code (q_y x) (q_bc x) (q_mL x) (q_rt x) := by unfold q_cw; rw [h]
theorem q_cw_h {x : Nat} {a : Nat × Nat × Nat × Nat} {t : List (Nat × Nat × Nat × Nat)} (h : q_hh x = a :: t) : q_cw x = .codeWith (q_y x) (q_bc x) (q_mL x) (q_rt x) (q_hh x) := by unfold q_cw; rw [h]
theorem q_preS {base9 : Nat} {ws : va_W} {tys : List (ClassId × FieldType)} {H : Heap} {locs : List Loc} {arR : List Value} (hKX : q_KX base9 bs L xs s) (hK : va_K D q_cl tys s) (hP : va_P D q_cl ws H) (hS : va_S (q_A base9) s.heap H locs) : PreS s H (q_Pre bs base9 L xs D ws tys arR) arR :=
  ⟨q_Pre_b, fun U hU hW => ⟨rfl, va_K.moved hW.alike hK, by rw [hU]; exact hP, hKX.go hW (by rw [hU]; exact hS)⟩⟩
theorem q_call_s (hX : q_Cx i p l R s m args meth c0 base bs L xs) (hhr : q_F2 (q_hrel (q_cn i)) (q_mt i).2.2.2 (q_hh i))
    {cf : Nat → List q_V → q_H → q_I → Option (List q_Lf)} (hcf : q_Con ρ bs base L xs D l cf) (hEnd : q_Ends p l e R s m args below meth c0 Q ρ bs base D ws0 i LF)
    {x y pc : Nat} {lo : q_L} {st : List q_V} {hp : q_H} {iv : q_I} {cl sl : Nat} {z : List q_C × List q_Lf} (hx9 : x < 369)
    (run : ∀ (ws : va_W) (tys : List (ClassId × FieldType)) (H : Heap) (locs : List Loc) (ls : Array Slot) (arR restR : List Value) (lfs : List q_Lf), va_K D q_cl tys s → va_P D q_cl ws H → va_S (q_A base) s.heap H locs → ls.size = q_mL i → arR.length = (q_mt x).2.1.2.2.1 → (restR.map fun v => v.category).sum ≤ 8 →
      ((y = 0 ∨ y = 2 ∨ y = 4) → ∃ (k a : Nat) (t9 fs : List Value), arR = .ref a :: t9 ∧ ws[k]? = some (a, .inr (q_cn x, fs))) →
      (q_rm x).frames + 1 ≤ R.frames ∧ 8 + (q_mL x + 11) + (q_rm x).locals ≤ R.locals → cl + (q_rm x).cells ≤ R.cells ∧ sl + (q_rm x).slots ≤ R.slots →
      vx_Met l (q_y x) (q_wsM x) (q_rm x) (q_Pre bs base L xs D ws tys arR) (q_Qc ρ bs base D ws lfs) (q_XC ρ bs base D ws lfs) (q_rm x).cells (q_rm x).slots (q_A base) →
      vx_Run p l e R s m args below meth c0 H locs cl sl (q_rm x).cells (q_rm x).slots (F0 m pc ls (arR.reverse ++ restR)) restR (q_Qc ρ bs base D ws lfs arR.toArray) (q_XC ρ bs base D ws lfs) (q_A base))
    (h : q_oCall cf (q_mt i) (q_mt x) x y pc lo st hp iv cl sl = some z) (hz : ∀ c ∈ z.1, q_G (q_w p l e R s m args below meth c0 Q) q_cl (q_mL i) ρ bs base D ws0 s c) (hLF : ∀ lf ∈ z.2, lf ∈ LF) :
    q_G (q_w p l e R s m args below meth c0 Q) q_cl (q_mL i) ρ bs base D ws0 s (pc, lo, st, hp, iv, cl, sl) := by
  obtain ⟨hx, hb, hml, hown, hts, hlocks, hnm, htab, hKX, hst, hR, h276⟩ := hX
  obtain ⟨kBL, kSL, kNC, kAO, kU, kN, kX, kZ, kS, kW, kC, kFo, kNz, kbs, kba⟩ := id hKX
  obtain ⟨c1, c2, c3, c4, c5, c6, c7, c8, c9⟩ := q_callee hx9 hts
  obtain ⟨ar, d1, h⟩ := q_bd_i h
  obtain ⟨d2, h⟩ := q_if_i h
  obtain ⟨d3, h⟩ := q_if_i h
  obtain ⟨lfs, d4, h⟩ := q_bd_i h
  cases q_so h
  obtain ⟨f1, f2⟩ := q_and_i d2
  obtain ⟨f3, f4⟩ := q_and_i f2
  obtain ⟨f5, f6⟩ := q_and_i f4
  obtain ⟨f7, f8⟩ := q_and_i f6
  intro ho ws tys H locs ls lv sR hK hP hD hS hW hE hL hF hl
  obtain ⟨arR, restR, g1, g2, g3, g4⟩ := q_take_s (R := q_rv ρ bs ws) (f := fun n acc r => Nat.rec (motive := fun _ => List q_V → List q_V → Option (List q_V × List q_V)) (fun acc r => some (acc, r)) (fun _ ih acc r => (q_pop r).bind fun p => ih (p.1 :: acc) p.2) n acc r) (fun _ _ => rfl) (fun _ _ _ => rfl) _ _ _ ar.1 ar.2 [] sR d1 trivial hF
  have g1' : sR = arR.reverse ++ restR := g1
  subst g1'
  have e5 : (q_mt x).2.1.1 + 19 + (q_rm x).locals ≤ (q_rm i).locals := q_bl f5
  have e3 : (q_rm x).frames + 1 ≤ (q_rm i).frames := q_bl f3
  have e7 : cl + (q_rm x).cells ≤ (q_rm i).cells := q_bl f7
  have e8 : sl + (q_rm x).slots ≤ (q_rm i).slots := q_bl f8
  have hrec : (y = 0 ∨ y = 2 ∨ y = 4) → ∃ (k a : Nat) (t9 fs : List Value), arR = .ref a :: t9 ∧ ws[k]? = some (a, .inr (q_cn x, fs)) := by
    intro hy
    have hyb : (bif Nat.beq y 0 then true else bif Nat.beq y 2 then true else Nat.beq y 4) = true := by
      rcases hy with rfl | rfl | rfl <;> rfl
    rw [hyb] at d3
    cases har : ar.1 with
    | nil => rw [har] at d3; cases d3
    | cons a t =>
      rw [har] at d3 g2
      obtain ⟨V, r9, rfl, k1, k2⟩ := q_F2_c g2
      cases hat : q_at hp a with
      | none =>
        have d3' : (match q_at hp a with | none => false | some e => bif Nat.beq e.1 0 then Nat.beq e.2.1 (q_mt x).2.1.2.1 else false) = true := d3
        rw [hat] at d3'; cases d3'
      | some ce =>
        have d3' : (match q_at hp a with | none => false | some e => bif Nat.beq e.1 0 then Nat.beq e.2.1 (q_mt x).2.1.2.1 else false) = true := d3
        rw [hat] at d3'
        obtain ⟨d5, d6⟩ := q_and_i d3'
        obtain ⟨b, e9, m1, rfl, m3⟩ := q_at_i hW hat k1
        obtain ⟨kd, n, fs, arr⟩ := ce
        have e1 : kd = 0 := q_bq d5
        have e2 : n = q_cn x := q_bq d6
        subst e1; subst e2
        obtain ⟨fsR, rfl, -⟩ := m3
        exact ⟨_, b, r9, fsR, rfl, m1⟩
  have hM := hcf x ar.1 hp iv lfs d4 hx9 ho ws tys arR hD hW g2
  have hrun := run ws tys H locs ls arR restR lfs hK hP hS hl.1 (by rw [g4]; show _ + 0 = _; rfl) (by rw [q_wid_s _ _ g3]; exact q_bl f1) hrec (by rw [hR]; exact ⟨e3, by omega⟩) (by rw [hR]; exact ⟨e7, e8⟩) hM
  refine q_callX hrun hS (fun q h => h) (fun st o t h => h.2) (fun E st t h => h.2) ?_ ?_
  · intro E ce q9 st9 t locs1 h0 hal hXC hS1 hce hcv hcl
    obtain ⟨⟨lf, hlf, ws', tys', ⟨ho', hK', hP', hD', hW', hE'⟩, k, hk4, e2, rfl⟩, -⟩ := hXC
    obtain ⟨kd, a, hp', iv'⟩ := lf
    have e2 : kd = k + 2 := e2
    subst e2
    obtain ⟨hd1, hd2⟩ := q_hd_s (pc := pc) (args := args) hk4 hts kNC _ _ hhr
    obtain ⟨hm1, hm2⟩ := q_conts_m (hh := (q_mt i).2.2.2) (pc := pc) (lo := lo) (rest := ar.2) (cl := Nat.add cl (q_mt x).2.2.1.2.2.1) (sl := Nat.add sl (q_mt x).2.2.1.2.2.2) hlf
    have hcont : q_cont (q_mt i).2.2.2 pc lo ar.2 (Nat.add cl (q_mt x).2.2.1.2.2.1) (Nat.add sl (q_mt x).2.2.1.2.2.2) (k + 2, a, hp', iv') = (match q_hd (q_mt i).2.2.2 pc k with
      | some h => ([(h, lo, [(10, 0)], hp', iv', Nat.add cl (q_mt x).2.2.1.2.2.1, Nat.add sl (q_mt x).2.2.1.2.2.2)], [])
      | none => ([], [(k + 2, a, hp', iv')])) := rfl
    have hK2 := va_K.moved hal.symm hK'
    cases hh9 : q_hd (q_mt i).2.2.2 pc k with
    | some hpc =>
      rw [hh9] at hcont
      obtain ⟨pre, x', suf, t1, t2, t3, t4, t5, t6⟩ := hd1 _ hh9
      have hcast : (Cond.castable (q_ex k) (q_ex k)).before args s = true := va_Nw.use rfl (kBL _ (List.mem_append_right _ (List.mem_append_right _ (List.mem_append_right _ (List.mem_map.mpr ⟨k, List.mem_range.mpr hk4, rfl⟩)))))
      have hi9 : i < 369 := h276.elim id (fun h9 => by
        rw [h9] at hh9
        cases (show (none : Option Nat) = some hpc from hh9))
      refine vx_catch hown pre x' suf (by rw [htab hi9]; exact t1) t2 t3 t4 t5 hcast hce hcv hcl ?_
      rw [t6]
      exact hz (hpc, lo, [(10, 0)], hp', iv', Nat.add cl (q_mt x).2.2.1.2.2.1, Nat.add sl (q_mt x).2.2.1.2.2.2) (hm1 _ (by rw [hcont]; exact List.mem_cons_self)) ho' ws' tys' t.heap locs1 ls lv [.ref q9] hK2 hP' hD' hS1 hW' (hE.tr hE') (q_F2_m (fun a b h => ⟨h.1, h.2.ex hE'⟩) hL) ⟨⟨q9, rfl⟩, trivial⟩ hl
    | none =>
      rw [hh9] at hcont
      exact hEnd.2.1 (k + 2, a, hp', iv') k pc ws' tys' t.heap locs1 ls restR _ _ q9 ce (hLF _ (hm2 _ (by rw [hcont]; exact List.mem_cons_self))) rfl hk4 ho' hK2 hP' hD' hS1 hW' (hE.tr hE') (by rw [hR]; exact e7) (by rw [hR]; exact e8) hce hcv hcl (fun h9 => by rw [htab h9]; exact hd2 hh9)
  · intro v st9 t locs1 h0 hal hQc hS1
    obtain ⟨⟨lf, hlf, ws', tys', ⟨ho', hK', hP', hD', hW', hE'⟩, hout⟩, -⟩ := hQc
    obtain ⟨kd, a, hp', iv'⟩ := lf
    obtain ⟨hm1, hm2⟩ := q_conts_m (hh := (q_mt i).2.2.2) (pc := pc) (lo := lo) (rest := ar.2) (cl := Nat.add cl (q_mt x).2.2.1.2.2.1) (sl := Nat.add sl (q_mt x).2.2.1.2.2.2) hlf
    have hK2 := va_K.moved hal.symm hK'
    rcases hout with ⟨e0, ho9⟩ | ⟨e1, V, ho9, hv⟩
    · have e0 : kd = 0 := e0
      subst e0
      cases ho9
      exact hz (Nat.add pc 3, lo, ar.2, hp', iv', Nat.add cl (q_mt x).2.2.1.2.2.1, Nat.add sl (q_mt x).2.2.1.2.2.2) (hm1 _ List.mem_cons_self) ho' ws' tys' t.heap locs1 ls lv restR hK2 hP' hD' hS1 hW' (hE.tr hE') (q_F2_m (fun a b h => ⟨h.1, h.2.ex hE'⟩) hL) (q_F2_m (fun a b h => h.ex hE') g3) hl
    · have e1 : kd = 1 := e1
      subst e1
      cases ho9
      exact hz (Nat.add pc 3, lo, q_conc iv' a :: ar.2, hp', iv', Nat.add cl (q_mt x).2.2.1.2.2.1, Nat.add sl (q_mt x).2.2.1.2.2.2) (hm1 _ List.mem_cons_self) ho' ws' tys' t.heap locs1 ls lv (V :: restR) hK2 hP' hD' hS1 hW' (hE.tr hE') (q_F2_m (fun a b h => ⟨h.1, h.2.ex hE'⟩) hL) ⟨q_conc_rv ho' hv, q_F2_m (fun a b h => h.ex hE') g3⟩ hl

theorem q_step_s (hi : i < 370) (hX : q_Cx i p l R s m args meth c0 base bs L xs) (hr : q_rg ρ) {sL : Nat} (hsL : sL = L) (hxs : ∀ j, j < L → Int32.ofInt (ρ j) = xs j)
    (hrk : q_rkk (q_rt i) = (q_mt i).2.1.2.2.2) (hhr : q_F2 (q_hrel (q_cn i)) (q_mt i).2.2.2 (q_hh i))
    {cf : Nat → List q_V → q_H → q_I → Option (List q_Lf)} (hcf : q_Con ρ bs base L xs D l cf) (hEnd : q_Ends p l e R s m args below meth c0 Q ρ bs base D ws0 i LF)
    {c : q_C} {z : List q_C × List q_Lf} (h : q_step q_mt q_df cf sL (q_mt i) c = some z) (hz : ∀ c ∈ z.1, q_G (q_w p l e R s m args below meth c0 Q) q_cl (q_mL i) ρ bs base D ws0 s c) (hLF : ∀ lf ∈ z.2, lf ∈ LF) :
    q_G (q_w p l e R s m args below meth c0 Q) q_cl (q_mL i) ρ bs base D ws0 s c := by
  obtain ⟨pc, lo, st, hp, iv, cl, sl⟩ := c
  obtain ⟨hpc, h⟩ := q_if_i h
  have hval := q_val_ok i hi pc (q_bl hpc)
  have hio := q_io_s i hi pc (q_bl hpc)
  generalize (q_mt i).1.2 pc = en at h hval hio
  obtain ⟨ins, len, x, y, v⟩ := en
  subst hsL
  have hX' := hX
  obtain ⟨hx, hb, hml, hown, hts, hlocks, hnm, htab, hKX, hst, hR, h276⟩ := hX
  obtain ⟨kBL, kSL, kNC, kAO, kU, kN, kX, kZ, kS, kW, kC, kFo, kNz, kbs, kba⟩ := id hKX
  have hA : ∀ q, s.heap.size ≤ q → q_A base q := fun q h => Nat.le_trans kba h
  have hbl : ∀ n, n ≤ 2 → bs n < s.heap.size := fun n hn => Nat.lt_of_lt_of_le (kbs n hn) kba
  have hbA : ∀ n, n ≤ 2 → ¬ q_A base (bs n) := fun n hn => Nat.not_le.mpr (kbs n hn)
  cases hlen : Nat.beq len 0 with
  | true =>
    have hval' : q_nop ins = true := q_val_z hval hlen
    cases ins <;> first | (cases (show false = true from hval'); done) | (cases (show (none : q_O) = some z from h))
  | false =>
  have hval' := q_val_nz hval hlen
  obtain ⟨hd0, hv⟩ := q_and_i hval'
  have hdec := of_decide_eq_true hd0
  clear hval hval' hd0 hlen
  cases ins
  case aload_n k =>
    obtain ⟨v1, v2⟩ := q_and_i (show q_an (Nat.beq len 1) _ = true from hv); have e1 := q_bq v1; subst e1
    have e2 := q_bq v2
    exact q_s_load (S := fun V => V = .null ∨ ∃ x, V = .ref x) (fun ws a V h1 h2 => q_isN_i h1 h2) (fun H locs ls r V hV hl k9 => by rcases hV with rfl | ⟨x9, rfl⟩; exact lv_aload_nN hx hb hdec e2 hl k9; exact lv_aload_n hx hb hdec e2 hl k9) h hz
  case aload k =>
    obtain ⟨v1, v2⟩ := q_and_i (show q_an (Nat.beq len 2) _ = true from hv); have e1 := q_bq v1; subst e1
    have e2 := q_bq v2; subst e2
    exact q_s_load (S := fun V => V = .null ∨ ∃ x, V = .ref x) (fun ws a V h1 h2 => q_isN_i h1 h2) (fun H locs ls r V hV hl k9 => by rcases hV with rfl | ⟨x9, rfl⟩; exact lv_aloadN hx hb hdec hl k9; exact lv_aload hx hb hdec hl k9) h hz
  case astore_n k =>
    obtain ⟨v1, v2⟩ := q_and_i (show q_an (Nat.beq len 1) _ = true from hv); have e1 := q_bq v1; subst e1
    obtain ⟨v3, v4⟩ := q_and_i v2
    have e2 := q_bq v3
    exact q_s_store (wd := false) (S := fun V => V = .null ∨ ∃ x, V = .ref x) (fun ws a V h1 h2 => q_isN_i h1 h2) (fun H locs ls r V lv hV hl k9 => by rcases hV with rfl | ⟨x9, rfl⟩; exact lv_astore_nN hx hb hdec e2 hl (q_bl v4) rfl k9; exact lv_astore_n hx hb hdec e2 hl (q_bl v4) rfl k9) h hz
  case astore k =>
    obtain ⟨v1, v2⟩ := q_and_i (show q_an (Nat.beq len 2) _ = true from hv); have e1 := q_bq v1; subst e1
    obtain ⟨v3, v4⟩ := q_and_i v2
    have e2 := q_bq v3; subst e2
    exact q_s_store (wd := false) (S := fun V => V = .null ∨ ∃ x, V = .ref x) (fun ws a V h1 h2 => q_isN_i h1 h2) (fun H locs ls r V lv hV hl k9 => by rcases hV with rfl | ⟨x9, rfl⟩; exact lv_astoreN hx hb hdec hl (q_bl v4) rfl k9; exact lv_astore hx hb hdec hl (q_bl v4) rfl k9) h hz
  case iload_n k =>
    obtain ⟨v1, v2⟩ := q_and_i (show q_an (Nat.beq len 1) _ = true from hv); have e1 := q_bq v1; subst e1
    have e2 := q_bq v2
    exact q_s_load (S := fun V => ∃ x, V = .int x) (fun ws a V h1 h2 => q_isK_i h1 h2) (fun H locs ls r V hV hl k9 => by obtain ⟨x9, rfl⟩ := hV; exact lv_iload_n hx hb hdec e2 hl k9) h hz
  case iload k =>
    obtain ⟨v1, v2⟩ := q_and_i (show q_an (Nat.beq len 2) _ = true from hv); have e1 := q_bq v1; subst e1
    have e2 := q_bq v2; subst e2
    exact q_s_load (S := fun V => ∃ x, V = .int x) (fun ws a V h1 h2 => q_isK_i h1 h2) (fun H locs ls r V hV hl k9 => by obtain ⟨x9, rfl⟩ := hV; exact lv_iload hx hb hdec hl k9) h hz
  case istore_n k =>
    obtain ⟨v1, v2⟩ := q_and_i (show q_an (Nat.beq len 1) _ = true from hv); have e1 := q_bq v1; subst e1
    obtain ⟨v3, v4⟩ := q_and_i v2
    have e2 := q_bq v3
    exact q_s_store (wd := false) (S := fun V => ∃ x, V = .int x) (fun ws a V h1 h2 => q_isI_i h1 h2) (fun H locs ls r V lv hV hl k9 => by obtain ⟨x9, rfl⟩ := hV; exact lv_istore_n hx hb hdec e2 hl (q_bl v4) rfl k9) h hz
  case istore k =>
    obtain ⟨v1, v2⟩ := q_and_i (show q_an (Nat.beq len 2) _ = true from hv); have e1 := q_bq v1; subst e1
    obtain ⟨v3, v4⟩ := q_and_i v2
    have e2 := q_bq v3; subst e2
    exact q_s_store (wd := false) (S := fun V => ∃ x, V = .int x) (fun ws a V h1 h2 => q_isI_i h1 h2) (fun H locs ls r V lv hV hl k9 => by obtain ⟨x9, rfl⟩ := hV; exact lv_istore hx hb hdec hl (q_bl v4) rfl k9) h hz
  case lload_n k =>
    obtain ⟨v1, v2⟩ := q_and_i (show q_an (Nat.beq len 1) _ = true from hv); have e1 := q_bq v1; subst e1
    have e2 := q_bq v2
    exact q_s_load (S := fun V => ∃ x, V = .long x) (fun ws a V h1 h2 => q_isJ_i h1 h2) (fun H locs ls r V hV hl k9 => by obtain ⟨x9, rfl⟩ := hV; exact lv_lload_n hx hb hdec e2 hl k9) h hz
  case lload k =>
    obtain ⟨v1, v2⟩ := q_and_i (show q_an (Nat.beq len 2) _ = true from hv); have e1 := q_bq v1; subst e1
    have e2 := q_bq v2; subst e2
    exact q_s_load (S := fun V => ∃ x, V = .long x) (fun ws a V h1 h2 => q_isJ_i h1 h2) (fun H locs ls r V hV hl k9 => by obtain ⟨x9, rfl⟩ := hV; exact lv_lload hx hb hdec hl k9) h hz
  case lstore_n k =>
    obtain ⟨v1, v2⟩ := q_and_i (show q_an (Nat.beq len 1) _ = true from hv); have e1 := q_bq v1; subst e1
    obtain ⟨v3, v4⟩ := q_and_i v2
    have e2 := q_bq v3
    exact q_s_store (wd := true) (S := fun V => ∃ x, V = .long x) (fun ws a V h1 h2 => q_isJ_i h1 h2) (fun H locs ls r V lv hV hl k9 => by obtain ⟨x9, rfl⟩ := hV; exact lv_lstore_n hx hb hdec e2 hl (q_bl v4) rfl k9) h hz
  case lstore k =>
    obtain ⟨v1, v2⟩ := q_and_i (show q_an (Nat.beq len 2) _ = true from hv); have e1 := q_bq v1; subst e1
    obtain ⟨v3, v4⟩ := q_and_i v2
    have e2 := q_bq v3; subst e2
    exact q_s_store (wd := true) (S := fun V => ∃ x, V = .long x) (fun ws a V h1 h2 => q_isJ_i h1 h2) (fun H locs ls r V lv hV hl k9 => by obtain ⟨x9, rfl⟩ := hV; exact lv_lstore hx hb hdec hl (q_bl v4) rfl k9) h hz
  case fload_n k =>
    obtain ⟨v1, v2⟩ := q_and_i (show q_an (Nat.beq len 1) _ = true from hv); have e1 := q_bq v1; subst e1
    have e2 := q_bq v2
    exact q_s_load (S := fun V => ∃ x, V = .float x) (fun ws a V h1 h2 => q_is4_i h1 h2) (fun H locs ls r V hV hl k9 => by obtain ⟨x9, rfl⟩ := hV; exact lv_fload_n hx hb hdec e2 hl k9) h hz
  case fload k =>
    obtain ⟨v1, v2⟩ := q_and_i (show q_an (Nat.beq len 2) _ = true from hv); have e1 := q_bq v1; subst e1
    have e2 := q_bq v2; subst e2
    exact q_s_load (S := fun V => ∃ x, V = .float x) (fun ws a V h1 h2 => q_is4_i h1 h2) (fun H locs ls r V hV hl k9 => by obtain ⟨x9, rfl⟩ := hV; exact lv_fload hx hb hdec hl k9) h hz
  case fstore_n k =>
    obtain ⟨v1, v2⟩ := q_and_i (show q_an (Nat.beq len 1) _ = true from hv); have e1 := q_bq v1; subst e1
    obtain ⟨v3, v4⟩ := q_and_i v2
    have e2 := q_bq v3
    exact q_s_store (wd := false) (S := fun V => ∃ x, V = .float x) (fun ws a V h1 h2 => q_is4_i h1 h2) (fun H locs ls r V lv hV hl k9 => by obtain ⟨x9, rfl⟩ := hV; exact lv_fstore_n hx hb hdec e2 hl (q_bl v4) rfl k9) h hz
  case fstore k =>
    obtain ⟨v1, v2⟩ := q_and_i (show q_an (Nat.beq len 2) _ = true from hv); have e1 := q_bq v1; subst e1
    obtain ⟨v3, v4⟩ := q_and_i v2
    have e2 := q_bq v3; subst e2
    exact q_s_store (wd := false) (S := fun V => ∃ x, V = .float x) (fun ws a V h1 h2 => q_is4_i h1 h2) (fun H locs ls r V lv hV hl k9 => by obtain ⟨x9, rfl⟩ := hV; exact lv_fstore hx hb hdec hl (q_bl v4) rfl k9) h hz
  case dload_n k =>
    obtain ⟨v1, v2⟩ := q_and_i (show q_an (Nat.beq len 1) _ = true from hv); have e1 := q_bq v1; subst e1
    have e2 := q_bq v2
    exact q_s_load (S := fun V => ∃ x, V = .double x) (fun ws a V h1 h2 => q_is5_i h1 h2) (fun H locs ls r V hV hl k9 => by obtain ⟨x9, rfl⟩ := hV; exact lv_dload_n hx hb hdec e2 hl k9) h hz
  case dload k =>
    obtain ⟨v1, v2⟩ := q_and_i (show q_an (Nat.beq len 2) _ = true from hv); have e1 := q_bq v1; subst e1
    have e2 := q_bq v2; subst e2
    exact q_s_load (S := fun V => ∃ x, V = .double x) (fun ws a V h1 h2 => q_is5_i h1 h2) (fun H locs ls r V hV hl k9 => by obtain ⟨x9, rfl⟩ := hV; exact lv_dload hx hb hdec hl k9) h hz
  case dstore_n k =>
    obtain ⟨v1, v2⟩ := q_and_i (show q_an (Nat.beq len 1) _ = true from hv); have e1 := q_bq v1; subst e1
    obtain ⟨v3, v4⟩ := q_and_i v2
    have e2 := q_bq v3
    exact q_s_store (wd := true) (S := fun V => ∃ x, V = .double x) (fun ws a V h1 h2 => q_is5_i h1 h2) (fun H locs ls r V lv hV hl k9 => by obtain ⟨x9, rfl⟩ := hV; exact lv_dstore_n hx hb hdec e2 hl (q_bl v4) rfl k9) h hz
  case dstore k =>
    obtain ⟨v1, v2⟩ := q_and_i (show q_an (Nat.beq len 2) _ = true from hv); have e1 := q_bq v1; subst e1
    obtain ⟨v3, v4⟩ := q_and_i v2
    have e2 := q_bq v3; subst e2
    exact q_s_store (wd := true) (S := fun V => ∃ x, V = .double x) (fun ws a V h1 h2 => q_is5_i h1 h2) (fun H locs ls r V lv hV hl k9 => by obtain ⟨x9, rfl⟩ := hV; exact lv_dstore hx hb hdec hl (q_bl v4) rfl k9) h hz
  case iconst n =>
    have e1 := q_bq (show Nat.beq len 1 = true from hv); subst e1
    exact q_s_one (V := .int (Int32.ofInt n)) (fun _ => by exact rfl) (fun H locs ls r k9 => lv_iconst hx hb hdec rfl k9) h hz
  case bipush n =>
    obtain ⟨v1, v2⟩ := q_and_i (show q_an (Nat.beq len 2) _ = true from hv); have e1 := q_bq v1; subst e1
    have e2 := of_decide_eq_true v2
    exact q_s_one (V := .int (Int32.ofInt n)) (fun _ => by exact rfl) (fun H locs ls r k9 => lv_bipush hx hb hdec e2 k9) h hz
  case sipush n =>
    obtain ⟨v1, v2⟩ := q_and_i (show q_an (Nat.beq len 3) _ = true from hv); have e1 := q_bq v1; subst e1
    have e2 := of_decide_eq_true v2
    exact q_s_one (V := .int (Int32.ofInt n)) (fun _ => by exact rfl) (fun H locs ls r k9 => lv_sipush hx hb hdec e2 k9) h hz
  case lconst k =>
    obtain ⟨v1, v2⟩ := q_and_i (show q_an (Nat.beq len 1) _ = true from hv); have e1 := q_bq v1; subst e1
    have e2 := of_decide_eq_true v2
    exact q_s_one (V := .long (Int64.ofInt v)) (fun _ => by exact rfl) (fun H locs ls r k9 => lv_lconst hx hb hdec e2 k9) h hz
  case fconst k =>
    obtain ⟨v1, v2⟩ := q_and_i (show q_an (Nat.beq len 1) _ = true from hv); have e1 := q_bq v1; subst e1
    obtain ⟨v3, v4⟩ := q_and_i v2
    have e2 : k = 0 := Fin.ext (q_bq v3)
    have e3 := q_ieq_i v4
    subst e2; subst e3
    exact q_s_one (V := .float (UInt32.ofNat 0)) (fun _ => by exact rfl) (fun H locs ls r k9 => lv_fconst0 hx hb hdec k9) h hz
  case dconst k =>
    obtain ⟨v1, v2⟩ := q_and_i (show q_an (Nat.beq len 1) _ = true from hv); have e1 := q_bq v1; subst e1
    obtain ⟨v3, v4⟩ := q_and_i v2
    have e2 : k = 0 := Fin.ext (q_bq v3)
    have e3 := q_ieq_i v4
    subst e2; subst e3
    exact q_s_one (V := .double (UInt64.ofNat 0)) (fun _ => by exact rfl) (fun H locs ls r k9 => lv_dconst0 hx hb hdec k9) h hz
  case ldc idx =>
    obtain ⟨v1, v2⟩ := q_and_i (show q_an (Nat.beq len 2) _ = true from hv); have e1 := q_bq v1; subst e1
    have h8 : q_one (bif Nat.beq y 0 then 0 else 9, v) (Nat.add pc 2) lo st hp iv cl sl = some z := h
    cases hy : Nat.beq y 0 with
    | true =>
      rw [hy] at v2 h8
      exact q_s_one (V := .int (Int32.ofInt v)) (fun _ => by exact rfl) (fun H locs ls r k9 => lv_ldc hx hb hown (hts _ (q_g1 (q_G_ci_m (List.mem_map.mpr ⟨_, q_mZ_i v2, rfl⟩)))) hdec k9) h8 hz
    | false =>
      rw [hy] at v2 h8
      obtain ⟨v3, v4⟩ := q_and_i v2
      have h3 : 3 ≤ v.toNat := q_bl v3
      have hW9 := kW _ (q_m3_i v4)
      rw [show 3 + (q_cn i, idx, Nat.sub v.toNat 3).2.2 = v.toNat from (by show 3 + (v.toNat - 3) = v.toNat; omega)] at hW9
      exact q_s_one (V := .ref (bs v.toNat)) (fun _ => by exact rfl) (fun H locs ls r k9 => va_ldcS hx hb hown hW9 hdec k9) h8 hz
  case ldc_w idx =>
    have h8 : (bif Nat.beq y 0 then none else q_one (9, v) (Nat.add pc len) lo st hp iv cl sl) = some z := h
    have hv8 : (bif Nat.beq y 0 then true else q_an (Nat.beq len 3) (q_an (Nat.ble 3 v.toNat) (q_m3 q_WL (q_cn i) idx (Nat.sub v.toNat 3)))) = true := hv
    cases hy : Nat.beq y 0 with
    | true => rw [hy] at h8; cases h8
    | false =>
      rw [hy] at h8 hv8
      obtain ⟨v1, v2⟩ := q_and_i hv8
      have e1 := q_bq v1; subst e1
      obtain ⟨v3, v4⟩ := q_and_i v2
      have h3 : 3 ≤ v.toNat := q_bl v3
      have hW9 := kW _ (q_m3_i v4)
      rw [show 3 + (q_cn i, idx, Nat.sub v.toNat 3).2.2 = v.toNat from (by show 3 + (v.toNat - 3) = v.toNat; omega)] at hW9
      exact q_s_one (V := .ref (bs v.toNat)) (fun _ => by exact rfl) (fun H locs ls r k9 => q_ldcSw hx hb hown hW9 hdec k9) h8 hz
  case ldc2_w idx =>
    obtain ⟨v1, v2⟩ := q_and_i (show q_an (Nat.beq len 3) _ = true from hv); have e1 := q_bq v1; subst e1
    have h8 : q_one (bif Nat.beq y 0 then 1 else 5, v) (Nat.add pc 3) lo st hp iv cl sl = some z := h
    cases hy : Nat.beq y 0 with
    | true =>
      rw [hy] at v2 h8
      exact q_s_one (V := .long (Int64.ofInt v)) (fun _ => by exact rfl) (fun H locs ls r k9 => lv_ldc2 hx hb hown (hts _ (q_g1 (q_G_cj_m (List.mem_map.mpr ⟨_, q_mZ_i v2, rfl⟩)))) hdec k9) h8 hz
    | false =>
      rw [hy] at v2 h8
      exact q_s_one (V := .double (UInt64.ofNat v.toNat)) (fun _ => by exact rfl) (fun H locs ls r k9 => lv_ldc2d hx hb hown (hts _ (q_g1 (q_G_cd_m (List.mem_map.mpr ⟨_, q_mZ_i v2, rfl⟩)))) hdec k9) h8 hz
  case getstatic idx =>
    obtain ⟨v1, v2⟩ := q_and_i (show q_an (Nat.beq len 3) _ = true from hv); have e1 := q_bq v1; subst e1
    obtain ⟨v3, v4⟩ := q_and_i v2
    obtain ⟨v5, v6⟩ := q_and_i v4
    obtain ⟨v7, v8⟩ := q_and_i v6
    have h1 : 1 ≤ v.toNat := q_bl v5
    have h2 : v.toNat ≤ 2 := q_bl v7
    have hfl := hts _ (q_g1 (q_G_gs_m (List.mem_map.mpr ⟨_, q_m3_i v3, rfl⟩)))
    exact q_s_oneS (v := (9, v)) (V := .ref (bs v.toNat)) (fun _ => by exact rfl) (fun H locs ls r hS9 k9 => va_gets hx hb (kZ v.toNat h2 h1) hS9 hown hfl (fun _ h9 => h9) hdec k9) h hz
  case aconst_null =>
    have e1 := q_bq (show Nat.beq len 1 = true from hv); subst e1
    exact q_s_one (V := .null) (fun _ => by exact rfl) (fun H locs ls r k9 => lv_null hx hb hdec k9) h hz
  case dup =>
    have e1 := q_bq (show Nat.beq len 1 = true from hv); subst e1
    exact q_s_dup (fun H locs ls r V hV k9 => lv_dup hx hb hdec hV k9) h hz
  case pop =>
    have e1 := q_bq (show Nat.beq len 1 = true from hv); subst e1
    exact q_s_pop (fun H locs ls r V hV k9 => lv_pop hx hb hdec hV k9) h hz
  case pop2 =>
    have e1 := q_bq (show Nat.beq len 1 = true from hv); subst e1
    exact q_s_pop2 (fun H locs ls r V hV k9 => lv_pop2_2 hx hb hdec hV k9) h hz
  case dup2 =>
    have e1 := q_bq (show Nat.beq len 1 = true from hv); subst e1
    exact q_s_dup2 (fun H locs ls r V hV k9 => lv_dup2_2 hx hb hdec hV k9) (fun H locs ls r V V2 hV hV2 k9 => lv_dup2_11 hx hb hdec hV hV2 k9) h hz
  case iadd =>
    have e1 := q_bq (show Nat.beq len 1 = true from hv); subst e1
    exact q_s_bin0 (fun H locs ls r a b k9 => lv_iadd hx hb hdec (by rw [q_add32]; exact k9)) h hz
  case isub =>
    have e1 := q_bq (show Nat.beq len 1 = true from hv); subst e1
    exact q_s_bin0 (fun H locs ls r a b k9 => lv_isub hx hb hdec (by rw [q_sub32]; exact k9)) h hz
  case imul =>
    have e1 := q_bq (show Nat.beq len 1 = true from hv); subst e1
    exact q_s_bin0 (fun H locs ls r a b k9 => lv_imul hx hb hdec (by rw [q_mul32]; exact k9)) h hz
  case ladd =>
    have e1 := q_bq (show Nat.beq len 1 = true from hv); subst e1
    exact q_s_bin1 (fun H locs ls r a b k9 => lv_ladd hx hb hdec (by rw [q_add64]; exact k9)) h hz
  case lsub =>
    have e1 := q_bq (show Nat.beq len 1 = true from hv); subst e1
    exact q_s_bin1 (fun H locs ls r a b k9 => lv_lsub hx hb hdec (by rw [q_sub64]; exact k9)) h hz
  case lmul =>
    have e1 := q_bq (show Nat.beq len 1 = true from hv); subst e1
    exact q_s_bin1 (fun H locs ls r a b k9 => lv_lmul hx hb hdec (by rw [q_mul64]; exact k9)) h hz
  case idiv =>
    have e1 := q_bq (show Nat.beq len 1 = true from hv); subst e1
    exact q_s_div0 (f := fun a b => (Int32.ofInt a / Int32.ofInt b).toInt) (fun H locs ls r a b hne k9 => lv_idiv hx hb hdec hne (by rw [Int32.ofInt_toInt] at k9; exact k9)) h hz
  case irem =>
    have e1 := q_bq (show Nat.beq len 1 = true from hv); subst e1
    exact q_s_div0 (f := fun a b => (Int32.ofInt a - Int32.ofInt a / Int32.ofInt b * Int32.ofInt b).toInt) (fun H locs ls r a b hne k9 => lv_irem hx hb hdec hne (by rw [Int32.ofInt_toInt] at k9; exact k9)) h hz
  case ldiv =>
    have e1 := q_bq (show Nat.beq len 1 = true from hv); subst e1
    exact q_s_div1 (f := fun a b => (Int64.ofInt a / Int64.ofInt b).toInt) (fun H locs ls r a b hne k9 => lv_ldiv hx hb hdec hne (by rw [Int64.ofInt_toInt] at k9; exact k9)) h hz
  case iand =>
    have e1 := q_bq (show Nat.beq len 1 = true from hv); subst e1
    exact q_s_and (fun H locs ls r a b k9 => lv_iand hx hb hdec k9) h hz
  case ishr =>
    have e1 := q_bq (show Nat.beq len 1 = true from hv); subst e1
    exact q_s_any (g := fun a b => a >>> (b &&& 31)) (fun H locs ls r a b k9 => lv_ishr hx hb hdec k9) h hz
  case ior =>
    have e1 : len = 1 := q_bq (show Nat.beq len 1 = true from hio); subst e1
    exact q_s_any (g := fun a b => a ||| b) (fun H locs ls r a b k9 => lv_ior hx hb hdec k9) h hz
  case ishl =>
    have e1 : len = 1 := q_bq (show Nat.beq len 1 = true from hio); subst e1
    exact q_s_any (g := fun a b => a <<< (b &&& 31)) (fun H locs ls r a b k9 => lv_ishl hx hb hdec k9) h hz
  case iushr =>
    have e1 := q_bq (show Nat.beq len 1 = true from hv); subst e1
    exact q_s_any (g := fun a b => (a.toUInt32 >>> (b.toUInt32 &&& Int32.toUInt32 31)).toInt32) (fun H locs ls r a b k9 => lv_iushr hx hb hdec rfl k9) h hz
  case ineg =>
    have e1 := q_bq (show Nat.beq len 1 = true from hv); subst e1
    exact q_s_neg (fun H locs ls r a k9 => lv_ineg hx hb hdec k9) h hz
  case lcmp =>
    have e1 := q_bq (show Nat.beq len 1 = true from hv); subst e1
    exact q_s_lcmp hr (fun H locs ls r a b k9 => W.lcmp hx hb hdec k9) h hz
  case i2l =>
    have e1 := q_bq (show Nat.beq len 1 = true from hv); subst e1
    exact q_s_i2l hr (fun H locs ls r a k9 => lv_i2l hx hb hdec rfl k9) h hz
  case l2i =>
    have e1 := q_bq (show Nat.beq len 1 = true from hv); subst e1
    exact q_s_l2i hr (fun H locs ls r a k9 => lv_l2i hx hb hdec rfl k9) h hz
  case i2b =>
    have e1 := q_bq (show Nat.beq len 1 = true from hv); subst e1
    exact q_s_un0 (g := fun a => a.toInt8.toInt32) (fun H locs ls r a k9 => lv_i2b hx hb hdec rfl k9) h hz
  case i2f =>
    have e1 := q_bq (show Nat.beq len 1 = true from hv); subst e1
    exact q_s_unG (t := 0) (u := 4) (V1 := fun a => .int (Int32.ofInt a)) (V2 := fun a => .float (FP.i2f (Int32.ofInt a))) (fun _ _ _ h9 => h9) (fun _ a => by show Value.float _ = .float (UInt32.ofNat (Int.ofNat _).toNat); rw [q_u32]) (fun H locs ls r a k9 => lv_i2f hx hb hdec k9) h hz
  case i2d =>
    have e1 := q_bq (show Nat.beq len 1 = true from hv); subst e1
    exact q_s_unG (t := 0) (u := 5) (V1 := fun a => .int (Int32.ofInt a)) (V2 := fun a => .double (FP.i2d (Int32.ofInt a))) (fun _ _ _ h9 => h9) (fun _ a => by show Value.double _ = .double (UInt64.ofNat (Int.ofNat _).toNat); rw [q_u64]) (fun H locs ls r a k9 => lv_i2d hx hb hdec k9) h hz
  case l2d =>
    have e1 := q_bq (show Nat.beq len 1 = true from hv); subst e1
    exact q_s_unG (t := 1) (u := 5) (V1 := fun a => .long (Int64.ofInt a)) (V2 := fun a => .double (FP.l2d (Int64.ofInt a))) (fun _ _ _ h9 => h9) (fun _ a => by show Value.double _ = .double (UInt64.ofNat (Int.ofNat _).toNat); rw [q_u64]) (fun H locs ls r a k9 => lv_l2d hx hb hdec k9) h hz
  case fneg =>
    have e1 := q_bq (show Nat.beq len 1 = true from hv); subst e1
    exact q_s_unG (t := 4) (u := 4) (V1 := fun a => .float (UInt32.ofNat a.toNat)) (V2 := fun a => .float (FP.fneg (UInt32.ofNat a.toNat))) (fun _ _ _ h9 => h9) (fun _ a => by show Value.float _ = .float (UInt32.ofNat (Int.ofNat _).toNat); rw [q_u32]) (fun H locs ls r a k9 => lv_fneg hx hb hdec k9) h hz
  case fsub =>
    have e1 := q_bq (show Nat.beq len 1 = true from hv); subst e1
    exact q_s_f2 (fun H locs ls r a b hne k9 => lv_fsub hx hb hdec hne k9) h hz
  case fdiv =>
    have e1 := q_bq (show Nat.beq len 1 = true from hv); subst e1
    exact q_s_f2 (fun H locs ls r a b hne k9 => lv_fdiv hx hb hdec hne k9) h hz
  case dadd =>
    have e1 := q_bq (show Nat.beq len 1 = true from hv); subst e1
    exact q_s_d2 (fun H locs ls r a b hne k9 => lv_dadd hx hb hdec hne k9) h hz
  case ddiv =>
    have e1 := q_bq (show Nat.beq len 1 = true from hv); subst e1
    exact q_s_d2 (fun H locs ls r a b hne k9 => lv_ddiv hx hb hdec hne k9) h hz
  case fcmp op =>
    have e1 := q_bq (show Nat.beq len 1 = true from hv); subst e1
    exact q_s_fc (fun H locs ls r a b k9 => lv_fcmp hx hb hdec k9) h hz
  case f2d =>
    have e1 := q_bq (show Nat.beq len 1 = true from hv); subst e1
    exact q_s_f2d (fun H locs ls r a hne k9 => lv_f2d hx hb hdec hne k9) h hz
  case dcmp op =>
    have e1 := q_bq (show Nat.beq len 1 = true from hv); subst e1
    exact q_s_dc (fun H locs ls r a b k9 => lv_dcmp hx hb hdec k9) h hz
  case goto off =>
    obtain ⟨v1, v2⟩ := q_and_i (show q_an (Nat.beq len 3) _ = true from hv); have e1 := q_bq v1; subst e1
    have e2 := of_decide_eq_true v2
    exact q_s_goto (fun H locs ls r k9 => lv_goto hx hb hdec e2 k9) h hz
  case ifCond c off =>
    obtain ⟨v1, v2⟩ := q_and_i (show q_an (Nat.beq len 3) _ = true from hv); have e1 := q_bq v1; subst e1
    have e2 := of_decide_eq_true v2
    refine q_s_if hr (fun H locs ls r a k1 k2 => ?_) h hz
    cases c with
      | eq => exact lv_if_eq hx hb hdec e2 k1 k2
      | ne => exact lv_if_ne hx hb hdec e2 k1 (fun h9 => k2 (fun hn => hn h9))
      | lt => exact lv_if_lt hx hb hdec e2 k1 k2
      | ge => exact lv_if_ge hx hb hdec e2 k1 k2
      | gt => exact lv_if_gt hx hb hdec e2 k1 k2
      | le => exact lv_if_le hx hb hdec e2 k1 k2
  case if_icmp c off =>
    obtain ⟨v1, v2⟩ := q_and_i (show q_an (Nat.beq len 3) _ = true from hv); have e1 := q_bq v1; subst e1
    have e2 := of_decide_eq_true v2
    refine q_s_ic hr (fun H locs ls r a b k1 k2 => ?_) h hz
    cases c with
      | eq => exact lv_icmp_eq hx hb hdec e2 k1 k2
      | ne => exact lv_icmp_ne hx hb hdec e2 k1 (fun h9 => k2 (fun hn => hn h9))
      | lt => exact lv_icmp_lt hx hb hdec e2 k1 k2
      | ge => exact lv_icmp_ge hx hb hdec e2 k1 k2
      | gt => exact lv_icmp_gt hx hb hdec e2 k1 k2
      | le => exact lv_icmp_le hx hb hdec e2 k1 k2
  case ifnull off =>
    obtain ⟨v1, v2⟩ := q_and_i (show q_an (Nat.beq len 3) _ = true from hv); have e1 := q_bq v1; subst e1
    have e2 := of_decide_eq_true v2
    exact q_s_ifn (fun H locs ls r k9 => lv_ifnullN hx hb hdec e2 k9) (fun H locs ls r a k9 => lv_ifnull hx hb hdec k9) h hz
  case tableswitch d l9 h9 offs =>
    obtain ⟨v1, v2⟩ := q_and_i (show q_an (q_ieq (q_w32 l9) l9) _ = true from hv)
    obtain ⟨v3, v4⟩ := q_and_i v2
    exact q_s_sw hr (q_ieq_i v1) (q_ieq_i v3) (q_ile_i v4) (fun H locs ls r x9 off t h1 h2 ho ht k9 => lv_tableIn hx hb hdec h1 h2 ho ht k9) (fun H locs ls r x9 t h1 ht k9 => lv_tableOut hx hb hdec h1 ht k9) h hz
  case iinc k n =>
    obtain ⟨v1, v2⟩ := q_and_i (show q_an (Nat.beq len 3) _ = true from hv); have e1 := q_bq v1; subst e1
    obtain ⟨v3, v4⟩ := q_and_i v2
    have e2 := q_bq v3; subst e2
    exact q_s_inc (fun H locs ls r a lv k8 hl hk k9 => lv_iinc hx hb hdec hl hk (q_add32 a n) (q_bl v4) rfl k9) h hz
  case getfield idx =>
    obtain ⟨v1, v2⟩ := q_and_i (show q_an (Nat.beq len 3) _ = true from hv); have e1 := q_bq v1; subst e1
    obtain ⟨v3, v4⟩ := q_and_i v2
    obtain ⟨v5, v6⟩ := q_and_i v4
    have hm := q_m4_i v3
    have h10 : x < 10 := q_bl v5
    have hy : y < q_cN x := q_bl v6
    exact q_s_get (fun ws tys H locs ls r k a fs V hK hP he hf k9 => va_get (D := D) (T := q_cF x) (N := q_cN x) (own := q_on (q_cn i)) hx hb hts (q_uin x h10) hown hK hP k he (q_cl_g x h10) y hy (hts _ (q_g1 (q_G_f_m (List.mem_map.mpr ⟨_, hm, rfl⟩)))) (fun _ h9 => h9) hf hdec k9) h hz
  case putfield idx =>
    obtain ⟨v1, v2⟩ := q_and_i (show q_an (Nat.beq len 3) _ = true from hv); have e1 := q_bq v1; subst e1
    obtain ⟨v3, v4⟩ := q_and_i v2
    obtain ⟨v5, v6⟩ := q_and_i v4
    have hm := q_m4_i v3
    have h10 : x < 10 := q_bl v5
    obtain ⟨v7, v8⟩ := q_and_i v6
    obtain ⟨v9, v10⟩ := q_and_i v8
    have hy : y < q_cN x := q_bl v7
    refine q_s_put (S := fun V => narrow (q_cT x y) V = V ∧ fits (q_cT x y) V = true) (fun ws a V h1 h2 => q_fit_s (q_bq v9) h1 h2) (fun ws tys H locs ls r k a fs V hK hP hD hS he hl hV k9 => ?_) h hz
    cases hf : (q_cF x y).2.2.2 with
    | false => exact va_put (D := D) (T := q_cF x) (N := q_cN x) (own := q_on (q_cn i)) hx hb hts (q_uin x h10) (q_cT x) (q_cT_ok x h10) (q_cF_ne x h10) hown hK hP hD hS k he (q_cl_g x h10) y hy (hts _ (q_g1 (q_G_f_m (List.mem_map.mpr ⟨_, hm, rfl⟩)))) (fun _ h9 => h9) hf (q_cT_ok x h10 y hy) hV.1 hV.2 hl hdec k9
    | true =>
      rw [hf] at v10
      obtain ⟨v11, v12⟩ := q_and_i v10
      have e3 := q_bq v11
      have e4 := of_decide_eq_true v12
      exact va_putF (D := D) (T := q_cF x) (N := q_cN x) (own := q_on (q_cn i)) hx hb hts (q_uin x h10) (q_cT x) (q_cT_ok x h10) (q_cF_ne x h10) hown hK hP hD hS k he (q_cl_g x h10) y hy (hts _ (q_g1 (q_G_f_m (List.mem_map.mpr ⟨_, hm, rfl⟩)))) (fun _ h9 => h9) hf ((hnm (by rw [e3]; exact h10)).trans e4) (by rw [q_cF_own x h10 y hy, e3]) (q_cT_ok x h10 y hy) hV.1 hV.2 hl hdec k9
  case arraylength =>
    have e1 := q_bq (show Nat.beq len 1 = true from hv); subst e1
    refine q_s_len (fun H locs ls r m9 hm9 hS k9 => ?_) (fun ws tys H locs ls r k a cA x9 t ty hK hP he ht k9 => ?_) h hz
    · exact va_slen hx hb (kX m9 hm9) (hbl m9 hm9) (hbA m9 hm9) hS hdec (by rw [show Int32.ofNat (q_ln sL m9) = Int32.ofInt (Int.ofNat (q_ln sL m9)) from rfl]; exact k9)
    · exact va_alen hx hb hK hP k t he ht rfl hdec k9
  case iaload =>
    have e1 := q_bq (show Nat.beq len 1 = true from hv); subst e1
    refine q_s_ald1 hr (fun H locs ls r j m9 hm9 hS hj k9 => ?_) (fun ws tys H locs ls r k a cA n t f j hK hP he ht hj k9 => va_iald hx hb hK hP k t he ht hj hdec k9) h hz
    refine va_sld hx hb (kX m9 hm9) (hbl m9 hm9) (hbA m9 hm9) hS hj hdec ?_
    have hj2 : j.toNatClampNeg < q_ln sL m9 := Nat.not_le.mp fun q9 => hj (Or.inr q9)
    cases hm0 : Nat.beq m9 0 with
    | true =>
      rw [hm0] at k9
      have e0 : m9 = 0 := q_bq hm0
      subst e0
      have k9 : q_w p l e R s m args below meth c0 Q H locs cl sl (Nat.add pc 1) ls (.int (Int32.ofInt (ρ j.toNatClampNeg)) :: r) := k9
      rw [hxs _ hj2] at k9
      exact k9
    | false =>
      rw [hm0] at k9
      have k9 : q_w p l e R s m args below meth c0 Q H locs cl sl (Nat.add pc 1) ls (.int (Int32.ofInt (q_lg m9 j.toNatClampNeg)) :: r) := k9
      unfold q_xn
      rw [hm0]
      exact k9
  case baload =>
    have e1 := q_bq (show Nat.beq len 1 = true from hv); subst e1
    exact q_s_ald2 hr trivial (fun ws tys H locs ls r k a cA n t f j hK hP he ht hj k9 => va_bald hx hb hK hP k t he ht hj hdec k9) h hz
  case laload =>
    have e1 := q_bq (show Nat.beq len 1 = true from hv); subst e1
    exact q_s_ald3 hr trivial (fun ws tys H locs ls r k a cA n t f j hK hP he ht hj k9 => va_lald hx hb hK hP k t he ht hj hdec k9) h hz
  case daload =>
    have e1 := q_bq (show Nat.beq len 1 = true from hv); subst e1
    exact q_s_ald4 hr trivial (fun ws tys H locs ls r k a cA n t f j hK hP he ht hj k9 => va_dald hx hb hK hP k t he ht hj hdec k9) h hz
  case aaload =>
    have e1 := q_bq (show Nat.beq len 1 = true from hv); subst e1
    exact q_s_ald5 hr trivial (fun ws tys H locs ls r k a cA n t f j hK hP he ht hj k9 => va_aldq hx hb hK hP k t he ht hj hdec k9) h hz
  case iastore =>
    have e1 := q_bq (show Nat.beq len 1 = true from hv); subst e1
    exact q_s_ast1 hr (fun ws tys H locs ls r k a cA n t f j x9 hK hP hD hS he ht hj k9 => va_iast hx hb hK hP hD hS k t he ht hj hdec k9) h hz
  case bastore =>
    have e1 := q_bq (show Nat.beq len 1 = true from hv); subst e1
    exact q_s_ast2 hr (fun ws tys H locs ls r k a cA n t f j x9 hK hP hD hS he ht hj k9 => va_bast hx hb hK hP hD hS k t he ht hj hdec k9) h hz
  case lastore =>
    have e1 := q_bq (show Nat.beq len 1 = true from hv); subst e1
    exact q_s_ast3 hr (fun ws tys H locs ls r k a cA n t f j x9 hK hP hD hS he ht hj k9 => va_last hx hb hK hP hD hS k t he ht hj hdec k9) h hz
  case dastore =>
    have e1 := q_bq (show Nat.beq len 1 = true from hv); subst e1
    exact q_s_ast4 hr (fun ws tys H locs ls r k a cA n t f j x9 hK hP hD hS he ht hj k9 => va_dast hx hb hK hP hD hS k t he ht hj hdec k9) h hz
  case aastore =>
    have e1 := q_bq (show Nat.beq len 1 = true from hv); subst e1
    exact q_s_asr (cc9 := 6) (fun ws tys H locs ls r k kv a v9 vs cA n t f j hK hP hD hS he ht hv9 hj k9 => va_astq (r := (q_on 6, q_cF 6, q_cN 6)) hx hb hK hP hD hS k t kv 6 he ht hv9 rfl hj hdec k9) h hz
  case new idx =>
    obtain ⟨v1, v2⟩ := q_and_i (show q_an (Nat.beq len 3) _ = true from hv); have e1 := q_bq v1; subst e1
    cases hy : Nat.beq y 0 with
    | true =>
      rw [hy] at v2
      obtain ⟨v3, v4⟩ := q_and_i v2
      have h10 : x < 10 := q_bl v4
      have h9 : q_oNew x (q_df x) (q_mt i).2.2.1.2.2.1 (q_mt i).2.2.1.2.2.2 (Nat.add pc 3) lo st hp iv cl sl = some z := by
        have h8 : (bif Nat.beq y 0 then q_oNew x (q_df x) (q_mt i).2.2.1.2.2.1 (q_mt i).2.2.1.2.2.2 (Nat.add pc 3) lo st hp iv cl sl else q_oThr x (q_mt i) st hp iv cl sl) = some z := h
        rw [hy] at h8
        exact h8
      refine q_s_new (q_df_s x h10) (fun ws tys H locs ls r hK hP hD hS hc hs k9 => ?_) h9 hz
      rw [q_df_l x h10] at hs k9
      exact va_new (D := D) (T := q_cF x) (N := q_cN x) (own := q_on (q_cn i)) hx hb hts (q_uin x h10) (q_cT x) (q_cT_ok x h10) hown (hts _ (q_g1 (q_G_c_m (List.mem_map.mpr ⟨_, q_m3_i v3, rfl⟩)))) (hts _ (q_g1 (q_G_i_m (List.mem_map.mpr ⟨x, List.mem_range.mpr h10, rfl⟩)))) (hts _ (q_g1 (q_G_t_m (List.mem_map.mpr ⟨x, List.mem_range.mpr (by omega), rfl⟩)))) hK hP hD hS hA (q_cl_g x h10) (q_dfR_ok x h10) (by rw [hR]; exact hc) (by rw [hR]; exact hs) hdec k9
    | false =>
      rw [hy] at v2
      obtain ⟨v3, v4⟩ := q_and_i v2
      obtain ⟨v5, v6⟩ := q_and_i v4
      obtain ⟨v7, v8⟩ := q_and_i v6
      obtain ⟨v9, v10⟩ := q_and_i v8
      obtain ⟨v11, v12⟩ := q_and_i v10
      obtain ⟨v13, v14⟩ := q_and_i v12
      have h9 : q_oThr x (q_mt i) st hp iv cl sl = some z := by
        have h8 : (bif Nat.beq y 0 then q_oNew x (q_df x) (q_mt i).2.2.1.2.2.1 (q_mt i).2.2.1.2.2.2 (Nat.add pc 3) lo st hp iv cl sl else q_oThr x (q_mt i) st hp iv cl sl) = some z := h
        rw [hy] at h8
        exact h8
      obtain ⟨t1, t2⟩ := q_if_i h9
      cases q_so t2
      obtain ⟨t3, t4⟩ := q_and_i t1
      obtain ⟨t5, t6⟩ := q_and_i t4
      obtain ⟨t7, t8⟩ := q_and_i t6
      obtain ⟨t9, t10⟩ := q_and_i t8
      have e8 := q_bq v3
      have hsite : q_thr i pc x idx := by
        refine ⟨e8, y - 1, v.toNat, (by have := q_m4_i v5; rw [e8] at this; exact this), (by have := q_m3_i v7; rw [e8] at this; exact this), (by have := q_m2_i v9; rw [e8] at this; exact this), hdec, of_decide_eq_true v13, ?_⟩
        cases hd : decide (decode (q_bc i) (pc + 4) = .ok (.ldc v.toNat, 2)) with
        | true =>
          rw [hd] at v14
          obtain ⟨v15, v16⟩ := q_and_i v14
          exact Or.inl ⟨of_decide_eq_true hd, of_decide_eq_true v15, of_decide_eq_true v16⟩
        | false =>
          rw [hd] at v14
          obtain ⟨v15, v16⟩ := q_and_i v14
          obtain ⟨v17, v18⟩ := q_and_i v16
          exact Or.inr ⟨of_decide_eq_true v15, of_decide_eq_true v17, of_decide_eq_true v18⟩
      have hhh : q_hh i = [] := by
        cases hq : (q_mt i).2.2.2 with
        | cons a t => rw [hq] at t10; cases t10
        | nil =>
          rw [hq] at hhr
          exact q_F2_n hhr
      intro ho ws tys H locs ls lv sR hK hP hD hS hW hE hL hF hl
      exact hEnd.2.2 (Nat.add x 2, q_z0, hp, iv) x pc idx ws tys H locs ls sR cl sl (hLF _ List.mem_cons_self) rfl (q_bl v11) ho hK hP hD hS hW hE (by rw [hR]; exact q_bl t7) (by rw [hR]; exact q_bl t9) (by rw [hml]; exact hl.1) (by rw [hR]; exact q_bl t3) (by rw [q_wid_s _ _ hF, hR]; exact q_bl t5) (fun h276 => by rw [htab h276, hhh]; rfl) hsite
  case newarray t9 =>
    obtain ⟨v1, v2⟩ := q_and_i (show q_an (Nat.beq len 2) _ = true from hv); have e1 := q_bq v1; subst e1
    cases t9 with
    | int =>
      obtain ⟨v3, v4⟩ := q_and_i v2
      have e2 := q_bq v3; have e3 := q_bq v4; subst e2; subst e3
      refine q_s_nwa (k := 1) (v0 := (0, 0)) (ty := .int) (c0 := fun N e => ∃ cA, e = .inl (cA, N, .inl (fun _ => 0))) (fun ws tys N e t hN hc ht => ?_) (fun ws tys H locs ls r n hK hP hD hS hn0 hn1 hc hs k9 => ?_) h hz
      · obtain ⟨cA, rfl⟩ := hc
        exact ⟨hN, cA, t, _, rfl, ht _ _ rfl, fun j hj => by rw [q_gm]; rfl⟩
      · exact va_newa (atype := .int) hx hb (hts _ (q_g1 (q_G_a_m (List.mem_of_getElem? (i := 0) rfl)))) rfl hK hP hD hS hA (n := n) (N' := n.toInt.toNat) (a0 := (n.toInt.toNat, .inl (fun _ => 0))) (fun _ => by exact rfl) (fun h9 => by have := Int32.lt_iff_toInt_lt.mp h9; change n.toInt < 0 at this; omega) rfl (by show n.toInt.toNat * 4 ≤ 536870912; omega) (by rw [hR]; exact hc) (by rw [hR]; exact hs) hdec (fun q cA H1 hK1 hP1 hD1 hS1 => k9 q cA _ H1 ⟨cA, rfl⟩ hK1 hP1 hD1 hS1)
    | byte =>
      obtain ⟨v3, v4⟩ := q_and_i v2
      have e2 := q_bq v3; have e3 := q_bq v4; subst e2; subst e3
      refine q_s_nwa (k := 2) (v0 := (0, 0)) (ty := .byte) (c0 := fun N e => ∃ cA, e = .inl (cA, N, .inl (fun _ => 0))) (fun ws tys N e t hN hc ht => ?_) (fun ws tys H locs ls r n hK hP hD hS hn0 hn1 hc hs k9 => ?_) h hz
      · obtain ⟨cA, rfl⟩ := hc
        exact ⟨hN, cA, t, _, rfl, ht _ _ rfl, fun j hj => by rw [q_gm]; rfl⟩
      · exact va_newa (atype := .byte) hx hb (hts _ (q_g1 (q_G_a_m (List.mem_of_getElem? (i := 1) rfl)))) rfl hK hP hD hS hA (n := n) (N' := n.toInt.toNat) (a0 := (n.toInt.toNat, .inl (fun _ => 0))) (fun _ => by exact rfl) (fun h9 => by have := Int32.lt_iff_toInt_lt.mp h9; change n.toInt < 0 at this; omega) rfl (by show n.toInt.toNat * 1 ≤ 536870912; omega) (by rw [hR]; exact hc) (by rw [hR]; exact hs) hdec (fun q cA H1 hK1 hP1 hD1 hS1 => k9 q cA _ H1 ⟨cA, rfl⟩ hK1 hP1 hD1 hS1)
    | long =>
      obtain ⟨v3, v4⟩ := q_and_i v2
      have e2 := q_bq v3; have e3 := q_bq v4; subst e2; subst e3
      refine q_s_nwa (k := 3) (v0 := (1, 0)) (ty := .long) (c0 := fun N e => ∃ cA, e = .inl (cA, N, .inr (.inl (fun _ => 0)))) (fun ws tys N e t hN hc ht => ?_) (fun ws tys H locs ls r n hK hP hD hS hn0 hn1 hc hs k9 => ?_) h hz
      · obtain ⟨cA, rfl⟩ := hc
        exact ⟨hN, cA, t, _, rfl, ht _ _ rfl, fun j hj => by rw [q_gm]; rfl⟩
      · exact va_newa (atype := .long) hx hb (hts _ (q_g1 (q_G_a_m (List.mem_of_getElem? (i := 2) rfl)))) rfl hK hP hD hS hA (n := n) (N' := n.toInt.toNat) (a0 := (n.toInt.toNat, .inr (.inl (fun _ => 0)))) (fun _ => by exact rfl) (fun h9 => by have := Int32.lt_iff_toInt_lt.mp h9; change n.toInt < 0 at this; omega) rfl (by show n.toInt.toNat * 8 ≤ 536870912; omega) (by rw [hR]; exact hc) (by rw [hR]; exact hs) hdec (fun q cA H1 hK1 hP1 hD1 hS1 => k9 q cA _ H1 ⟨cA, rfl⟩ hK1 hP1 hD1 hS1)
    | double =>
      obtain ⟨v3, v4⟩ := q_and_i v2
      have e2 := q_bq v3; have e3 := q_bq v4; subst e2; subst e3
      refine q_s_nwa (k := 4) (v0 := (5, 0)) (ty := .double) (c0 := fun N e => ∃ cA, e = .inl (cA, N, .inr (.inr (.inr (.inl (fun _ => 0)))))) (fun ws tys N e t hN hc ht => ?_) (fun ws tys H locs ls r n hK hP hD hS hn0 hn1 hc hs k9 => ?_) h hz
      · obtain ⟨cA, rfl⟩ := hc
        exact ⟨hN, cA, t, _, rfl, ht _ _ rfl, fun j hj => by rw [q_gm]; rfl⟩
      · exact va_newa (atype := .double) hx hb (hts _ (q_g1 (q_G_a_m (List.mem_of_getElem? (i := 3) rfl)))) rfl hK hP hD hS hA (n := n) (N' := n.toInt.toNat) (a0 := (n.toInt.toNat, .inr (.inr (.inr (.inl (fun _ => 0)))))) (fun _ => by exact rfl) (fun h9 => by have := Int32.lt_iff_toInt_lt.mp h9; change n.toInt < 0 at this; omega) rfl (by show n.toInt.toNat * 8 ≤ 536870912; omega) (by rw [hR]; exact hc) (by rw [hR]; exact hs) hdec (fun q cA H1 hK1 hP1 hD1 hS1 => k9 q cA _ H1 ⟨cA, rfl⟩ hK1 hP1 hD1 hS1)
    | _ => cases v2
  case anewarray idx =>
    obtain ⟨v1, v2⟩ := q_and_i (show q_an (Nat.beq len 3) _ = true from hv); have e1 := q_bq v1; subst e1
    refine q_s_nwa (k := 5) (v0 := (3, 0)) (ty := .object q_tbl) (c0 := fun N e => ∃ cA, e = .inl (cA, N, .inr (.inr (.inr (.inr (fun _ => none)))))) (fun ws tys N e t hN hc ht => ?_) (fun ws tys H locs ls r n hK hP hD hS hn0 hn1 hc hs k9 => ?_) h hz
    · obtain ⟨cA, rfl⟩ := hc
      exact ⟨hN, cA, t, _, rfl, ht _ _ rfl, fun j hj => by rw [q_gm]; rfl⟩
    · exact va_newq (C := q_tbl) (own := q_on (q_cn i)) hx hb hown (hts _ (q_g1 (q_G_c_m (List.mem_map.mpr ⟨_, q_m3_i v2, rfl⟩)))) kAO hK hP hD hS hA (n := n) (N' := n.toInt.toNat) (fun h9 => by have := Int32.lt_iff_toInt_lt.mp h9; change n.toInt < 0 at this; omega) rfl (by omega) (by rw [hR]; exact hc) (by rw [hR]; exact hs) hdec (fun q cA H1 hK1 hP1 hD1 hS1 => k9 q cA _ H1 ⟨cA, rfl⟩ hK1 hP1 hD1 hS1)
  case lreturn =>
    have e1 := q_bq (show Nat.beq len 1 = true from hv); subst e1
    obtain ⟨a, rfl, rfl, r1, r2, r3, r4, r5⟩ := q_ret_i (k := 3) (P := q_isJ) (b := false) h
    intro ho ws tys H locs ls lv sR hK hP hD hS hW hE hL hF hl
    obtain ⟨V, r, rfl, g1, hF1⟩ := q_F2_c hF
    have e9 := q_F2_n hF1; subst e9
    obtain ⟨x9, rfl⟩ := q_isJ_i r2 g1
    have hrt := q_rkk_i (show q_rkk (q_rt i) = _ from hrk.trans r1)
    exact hEnd.1 (1, a, hp, iv) pc _ _ _ ws tys H locs ls cl sl (hLF _ List.mem_cons_self) hdec (Or.inr (Or.inr (Or.inl ⟨rfl, hrt.2.2.2.1 rfl, x9, rfl, rfl⟩))) ho hK hP hD hS hW hE (by rw [hR]; exact r3) (by rw [hR]; exact r4) (Or.inr ⟨rfl, _, rfl, g1⟩)
  case freturn =>
    have e1 := q_bq (show Nat.beq len 1 = true from hv); subst e1
    obtain ⟨a, rfl, rfl, r1, r2, r3, r4, r5⟩ := q_ret_i (k := 4) (P := Nat.beq 4) (b := false) h
    intro ho ws tys H locs ls lv sR hK hP hD hS hW hE hL hF hl
    obtain ⟨V, r, rfl, g1, hF1⟩ := q_F2_c hF
    have e9 := q_F2_n hF1; subst e9
    obtain ⟨x9, rfl⟩ := q_is4_i r2 g1
    have hrt := q_rkk_i (show q_rkk (q_rt i) = _ from hrk.trans r1)
    exact hEnd.1 (1, a, hp, iv) pc _ _ _ ws tys H locs ls cl sl (hLF _ List.mem_cons_self) hdec (Or.inr (Or.inr (Or.inr (Or.inl ⟨rfl, hrt.2.2.2.2.1 rfl, x9, rfl, rfl⟩)))) ho hK hP hD hS hW hE (by rw [hR]; exact r3) (by rw [hR]; exact r4) (Or.inr ⟨rfl, _, rfl, g1⟩)
  case dreturn =>
    have e1 := q_bq (show Nat.beq len 1 = true from hv); subst e1
    obtain ⟨a, rfl, rfl, r1, r2, r3, r4, r5⟩ := q_ret_i (k := 5) (P := Nat.beq 5) (b := false) h
    intro ho ws tys H locs ls lv sR hK hP hD hS hW hE hL hF hl
    obtain ⟨V, r, rfl, g1, hF1⟩ := q_F2_c hF
    have e9 := q_F2_n hF1; subst e9
    obtain ⟨x9, rfl⟩ := q_is5_i r2 g1
    have hrt := q_rkk_i (show q_rkk (q_rt i) = _ from hrk.trans r1)
    exact hEnd.1 (1, a, hp, iv) pc _ _ _ ws tys H locs ls cl sl (hLF _ List.mem_cons_self) hdec (Or.inr (Or.inr (Or.inr (Or.inr (Or.inl ⟨rfl, hrt.2.2.2.2.2.1 rfl, x9, rfl, rfl⟩))))) ho hK hP hD hS hW hE (by rw [hR]; exact r3) (by rw [hR]; exact r4) (Or.inr ⟨rfl, _, rfl, g1⟩)
  case areturn =>
    have e1 := q_bq (show Nat.beq len 1 = true from hv); subst e1
    obtain ⟨a, rfl, rfl, r1, r2, r3, r4, r5⟩ := q_ret_i (k := 6) (P := fun t => bif Nat.beq t 2 then true else bif Nat.beq t 3 then true else Nat.beq t 9) (b := false) h
    intro ho ws tys H locs ls lv sR hK hP hD hS hW hE hL hF hl
    obtain ⟨V, r, rfl, g1, hF1⟩ := q_F2_c hF
    have e9 := q_F2_n hF1; subst e9
    have hVa : V = .null ∨ ∃ a9, V = .ref a9 := by
      rcases q_or_i r2 with h9 | h9
      · exact Or.inr (q_isR_i (by unfold q_isR; rw [h9]; rfl) g1)
      · obtain ⟨t, zz⟩ := a
        rcases q_or_i h9 with h9 | h9
        · have e3 : t = 3 := q_bq h9
          subst e3
          exact Or.inl g1
        · have e3 : t = 9 := q_bq h9
          subst e3
          exact Or.inr ⟨_, g1⟩
    have hrt := q_rkk_i (show q_rkk (q_rt i) = _ from hrk.trans r1)
    exact hEnd.1 (1, a, hp, iv) pc _ _ _ ws tys H locs ls cl sl (hLF _ List.mem_cons_self) hdec (Or.inr (Or.inr (Or.inr (Or.inr (Or.inr (Or.inl ⟨rfl, hrt.2.2.2.2.2.2 rfl, V, hVa, rfl, rfl⟩)))))) ho hK hP hD hS hW hE (by rw [hR]; exact r3) (by rw [hR]; exact r4) (Or.inr ⟨rfl, _, rfl, g1⟩)
  case ireturn =>
    have e1 := q_bq (show Nat.beq len 1 = true from hv); subst e1
    cases hy : Nat.beq (q_mt i).2.1.2.2.2 1 with
    | true =>
      have h8 : q_ret 1 q_isI false (q_mt i) st hp iv cl sl = some z := by
        have h7 := h
        rw [show (bif Nat.beq (q_mt i).2.1.2.2.2 1 then q_ret 1 q_isI false (q_mt i) st hp iv cl sl else q_ret 2 (Nat.beq 0) true (q_mt i) st hp iv cl sl) = q_ret 1 q_isI false (q_mt i) st hp iv cl sl by rw [hy]; rfl] at h7
        exact h7
      obtain ⟨a, rfl, rfl, r1, r2, r3, r4, r5⟩ := q_ret_i h8
      intro ho ws tys H locs ls lv sR hK hP hD hS hW hE hL hF hl
      obtain ⟨V, r, rfl, g1, hF1⟩ := q_F2_c hF
      have e9 := q_F2_n hF1; subst e9
      obtain ⟨x9, rfl⟩ := q_isI_i r2 g1
      have hrt := q_rkk_i (show q_rkk (q_rt i) = _ from hrk.trans r1)
      exact hEnd.1 (1, a, hp, iv) pc _ _ _ ws tys H locs ls cl sl (hLF _ List.mem_cons_self) hdec (Or.inl ⟨rfl, hrt.2.1 rfl, x9, rfl, rfl⟩) ho hK hP hD hS hW hE (by rw [hR]; exact r3) (by rw [hR]; exact r4) (Or.inr ⟨rfl, _, rfl, g1⟩)
    | false =>
      have h8 : q_ret 2 (Nat.beq 0) true (q_mt i) st hp iv cl sl = some z := by
        have h7 := h
        rw [show (bif Nat.beq (q_mt i).2.1.2.2.2 1 then q_ret 1 q_isI false (q_mt i) st hp iv cl sl else q_ret 2 (Nat.beq 0) true (q_mt i) st hp iv cl sl) = q_ret 2 (Nat.beq 0) true (q_mt i) st hp iv cl sl by rw [hy]; rfl] at h7
        exact h7
      obtain ⟨a, rfl, rfl, r1, r2, r3, r4, r5⟩ := q_ret_i h8
      intro ho ws tys H locs ls lv sR hK hP hD hS hW hE hL hF hl
      obtain ⟨V, r, rfl, g1, hF1⟩ := q_F2_c hF
      have e9 := q_F2_n hF1; subst e9
      obtain ⟨t, zz⟩ := a
      have e3 : 0 = t := q_bq r2
      subst e3
      have e4 : V = .int (Int32.ofInt zz) := g1
      subst e4
      have h01 : Int32.ofInt zz = 0 ∨ Int32.ofInt zz = 1 := by
        rcases r5 rfl with h9 | h9 <;> (have h9 : zz = _ := h9) <;> subst h9
        · exact Or.inl rfl
        · exact Or.inr rfl
      have hrt := q_rkk_i (show q_rkk (q_rt i) = _ from hrk.trans r1)
      exact hEnd.1 (1, (0, zz), hp, iv) pc _ _ _ ws tys H locs ls cl sl (hLF _ List.mem_cons_self) hdec (Or.inr (Or.inl ⟨rfl, hrt.2.2.1 rfl, _, h01, rfl, rfl⟩)) ho hK hP hD hS hW hE (by rw [hR]; exact r3) (by rw [hR]; exact r4) (Or.inr ⟨rfl, _, rfl, g1⟩)
  case return_ =>
    have e1 := q_bq (show Nat.beq len 1 = true from hv); subst e1
    obtain ⟨r1, h9⟩ := q_if_i (show q_ret0 (q_mt i) st hp iv cl sl = some z from h)
    cases q_so h9
    obtain ⟨r2, r3⟩ := q_and_i r1
    obtain ⟨r4, r5⟩ := q_and_i r3
    obtain ⟨r6, r7⟩ := q_and_i r5
    intro ho ws tys H locs ls lv sR hK hP hD hS hW hE hL hF hl
    cases st with
    | cons a t => cases r7
    | nil =>
      have e9 := q_F2_n hF; subst e9
      have hrt := q_rkk_i (show q_rkk (q_rt i) = _ from hrk.trans (q_bq r2))
      exact hEnd.1 (0, q_z0, hp, iv) pc _ _ none ws tys H locs ls cl sl (hLF _ List.mem_cons_self) hdec (Or.inr (Or.inr (Or.inr (Or.inr (Or.inr (Or.inr ⟨rfl, hrt.1 rfl, rfl, rfl⟩)))))) ho hK hP hD hS hW hE (by rw [hR]; exact q_bl r4) (by rw [hR]; exact q_bl r6) (Or.inl ⟨rfl, rfl⟩)
  case invokevirtual idx =>
    obtain ⟨v1, v2⟩ := q_and_i (show q_an (Nat.beq len 3) _ = true from hv); have e1 := q_bq v1; subst e1
    have h0 : (bif Nat.beq y 1 then q_oSl (q_mt i).2.2.1.1 (q_mt i).2.2.1.2.1 (q_mt i).2.2.1.2.2.1 (q_mt i).2.2.1.2.2.2 (Nat.add pc 3) lo st hp iv cl sl else bif Nat.beq y 2 then q_oSc (q_mt i).2.2.1.1 (q_mt i).2.2.1.2.1 (q_mt i).2.2.1.2.2.1 (q_mt i).2.2.1.2.2.2 (Nat.add pc 3) lo st hp iv cl sl else q_oCall cf (q_mt i) (q_mt x) x y pc lo st hp iv cl sl) = some z := h
    cases hy1 : Nat.beq y 1 with
    | true =>
      rw [hy1] at v2 h0
      have v3 : q_m3 q_SM (q_cn i) idx 1 = true := v2
      exact q_s_sl (fun ws r rR hf => q_wid_s r rR hf) (fun H locs ls r i9 hi9 hS9 hls w1 w2 w3 w4 k9 => q_txl (i := i) hx hb (hml.trans hls.symm) hown hts kS kC hS9 hi9 (by have := hts _ (q_g1 (q_G_sm_m (List.mem_map.mpr ⟨_, q_m3_i v3, rfl⟩))); exact this) (by rw [hR]; exact w1) (by rw [hR]; exact w2) (by rw [hR]; exact w3) (by rw [hR]; exact w4) hdec k9) h0 hz
    | false =>
    rw [hy1] at v2 h0
    cases hy2 : Nat.beq y 2 with
    | true =>
      rw [hy2] at v2 h0
      have v3 : q_m3 q_SM (q_cn i) idx 2 = true := v2
      exact q_s_sc (fun ws r rR hf => q_wid_s r rR hf) (fun H locs ls r i9 j9 c9 hi9 hj9 hc9 hS9 hls w1 w2 w3 w4 k9 => q_txc (i := i) hx hb (hml.trans hls.symm) hown hts kS kC kFo hS9 hi9 hj9 hc9 (by have := hts _ (q_g1 (q_G_sm_m (List.mem_map.mpr ⟨_, q_m3_i v3, rfl⟩))); exact this) (by rw [hR]; exact w1) (by rw [hR]; exact w2) (by rw [hR]; exact w3) (by rw [hR]; exact w4) hdec k9) h0 hz
    | false =>
    rw [hy2] at v2 h0
    replace h := h0
    obtain ⟨v3, v4⟩ := q_and_i (show q_an (Nat.beq y 0) _ = true from v2)
    obtain ⟨v5, v6⟩ := q_and_i v4
    obtain ⟨v7, v8⟩ := q_and_i v6
    obtain ⟨v9, v10⟩ := q_and_i v8
    have hy := q_bq v3; subst hy
    have hx9 : x < 369 := q_bl v9
    have hnh := q_nh_i v10
    have hVL := q_m1_i v7
    obtain ⟨c1, c2, c3, c4, c5, c6, c7, c8, c9⟩ := q_callee hx9 hts
    have hns := q_VL_n x hVL
    refine q_call_s hX' hhr hcf hEnd hx9 (fun ws tys H locs ls arR restR lfs hK hP hS hls hlen hwid hrec hfr hce hM => ?_) h hz hLF
    obtain ⟨k, a, t9, fs, rfl, he⟩ := hrec (Or.inl rfl)
    have hc10 := q_obj_c hP he
    have hn9 : ∀ sig, parseMethodDescriptor (q_y x).desc = some sig → t9.length = sig.parameters.length := fun sig hs => by
      have := c8 sig hs
      rw [hns] at this
      have h9 : t9.length + 1 = (q_mt x).2.1.2.2.1 := hlen
      rw [← this]; show _ = _ - 1; omega
    have hst9 : (Value.ref a :: t9).reverse ++ restR = t9.reverse ++ .ref a :: restR := by rw [List.reverse_cons, List.append_assoc]; rfl
    have hse : (Cond.selects (q_on (q_cn x)) (q_y x) (q_y x)).before args s = true := by rw [← c5]; exact hts _ (q_g1 (q_G_vs_m (List.mem_map.mpr ⟨x, hVL, rfl⟩)))
    exact vx_runV (C := q_on (q_cn x)) (n := t9.length) (b := a) (As := t9) (Ts := q_GL2) (own := q_on (q_cn i)) (nL := q_mL i) ⟨hx, hb, hml, hown, hts⟩ hM ⟨⟨rfl, rfl, hfr.1, hfr.2, c1, by rw [← q_cw_c hnh]; exact List.mem_cons_self, by rw [← q_cw_c hnh]; exact c2, c3, c4, hn9, hts _ (q_g1 (q_G_ml_m (List.mem_map.mpr ⟨_, q_m3_i v5, rfl⟩)))⟩, hts _ (q_g1 (q_G_vi_m (List.mem_map.mpr ⟨x, hVL, rfl⟩))), hse⟩ ⟨q_Pre_b, va_recv hK hP (q_cl_g _ hc10) he, (q_preS (arR := .ref a :: t9) hKX hK hP hS).2⟩ rfl rfl hls hst9 (lv_room hwid) hdec hce
  case invokestatic idx =>
    obtain ⟨v1, v2⟩ := q_and_i (show q_an (Nat.beq len 3) _ = true from hv); have e1 := q_bq v1; subst e1
    have h0 : (bif Nat.beq y 10 then q_oMJ (q_mt i).2.2.1.1 (q_mt i).2.2.1.2.1 (q_mt i).2.2.1.2.2.1 (q_mt i).2.2.1.2.2.2 (Nat.add pc 3) lo st hp iv cl sl else bif Nat.beq y 11 then q_oAJ (q_mt i).2.2.1.1 (q_mt i).2.2.1.2.1 (q_mt i).2.2.1.2.2.1 (q_mt i).2.2.1.2.2.2 (Nat.add pc 3) lo st hp iv cl sl else bif Nat.beq y 12 then q_oMF (q_mt i).2.2.1.1 (q_mt i).2.2.1.2.1 (q_mt i).2.2.1.2.2.1 (q_mt i).2.2.1.2.2.2 (Nat.add pc 3) lo st hp iv cl sl else bif Nat.beq y 6 then q_oM2 true (q_mt i).2.2.1.1 (q_mt i).2.2.1.2.1 (q_mt i).2.2.1.2.2.1 (q_mt i).2.2.1.2.2.2 (Nat.add pc 3) lo st hp iv cl sl else bif Nat.beq y 7 then q_oM2 false (q_mt i).2.2.1.1 (q_mt i).2.2.1.2.1 (q_mt i).2.2.1.2.2.1 (q_mt i).2.2.1.2.2.2 (Nat.add pc 3) lo st hp iv cl sl else bif Nat.beq y 8 then q_oAbs (q_mt i).2.2.1.1 (q_mt i).2.2.1.2.1 (q_mt i).2.2.1.2.2.1 (q_mt i).2.2.1.2.2.2 (Nat.add pc 3) lo st hp iv cl sl else q_oCall cf (q_mt i) (q_mt x) x y pc lo st hp iv cl sl) = some z := h
    cases hy10 : Nat.beq y 10 with
    | true =>
      rw [hy10] at v2 h0
      have v3 : q_m3 q_MJ (q_cn i) idx 10 = true := v2
      exact q_s_mj (fun ws r rR hf => q_wid_s r rR hf) (fun H locs ls r a b hls w1 w2 w3 w4 k9 => va_mmax_long (own := q_on (q_cn i)) hx hb (hml.trans hls.symm) hown (by have := hts _ (q_g1 (q_G_mj_m (List.mem_map.mpr ⟨_, q_m3_i v3, rfl⟩))); exact this) (hts _ (q_g1 (q_G_jc_m (List.mem_of_getElem? (i := 0) rfl)))) (hts _ (q_g1 (q_G_mc_m (List.mem_of_getElem? (i := 2) rfl)))) (hts _ (q_g1 (q_G_jc_m (List.mem_of_getElem? (i := 2) rfl)))) (by rw [hR]; exact w1) (by rw [hR]; exact w2) (by rw [hR]; exact w3) (by rw [hR]; exact w4) hdec k9) h0 hz
    | false =>
    rw [hy10] at v2 h0
    cases hy11 : Nat.beq y 11 with
    | true =>
      rw [hy11] at v2 h0
      have v3 : q_m3 q_MJ (q_cn i) idx 11 = true := v2
      exact q_s_aj (fun ws r rR hf => q_wid_s r rR hf) (fun H locs ls r a hls w1 w2 w3 w4 k9 => va_mabs_long (own := q_on (q_cn i)) hx hb (hml.trans hls.symm) hown (by have := hts _ (q_g1 (q_G_mj_m (List.mem_map.mpr ⟨_, q_m3_i v3, rfl⟩))); exact this) (hts _ (q_g1 (q_G_jc_m (List.mem_of_getElem? (i := 1) rfl)))) (hts _ (q_g1 (q_G_mc_m (List.mem_of_getElem? (i := 2) rfl)))) (hts _ (q_g1 (q_G_jc_m (List.mem_of_getElem? (i := 3) rfl)))) (by rw [hR]; exact w1) (by rw [hR]; exact w2) (by rw [hR]; exact w3) (by rw [hR]; exact w4) hdec k9) h0 hz
    | false =>
    rw [hy11] at v2 h0
    cases hy12 : Nat.beq y 12 with
    | true =>
      rw [hy12] at v2 h0
      have v3 : q_m3 q_MJ (q_cn i) idx 12 = true := v2
      exact q_s_mf (fun ws r rR hf => q_wid_s r rR hf) (fun H locs ls r a b n1 n2 hS9 hls w1 w2 w3 w4 k9 => q_fmr (i := i) (bs := bs) n1 n2 hx hb (hml.trans hls.symm) hown hts kNz hS9 (by have := hts _ (q_g1 (q_G_mj_m (List.mem_map.mpr ⟨_, q_m3_i v3, rfl⟩))); exact this) (by rw [hR]; exact w1) (by rw [hR]; exact w2) (by rw [hR]; exact w3) (by rw [hR]; exact w4) hdec k9) h0 hz
    | false =>
    rw [hy12] at v2 h0
    cases hy6 : Nat.beq y 6 with
    | true =>
      have e6 := q_bq hy6; subst e6
      have v3 : q_m3 q_MM (q_cn i) idx 6 = true := v2
      have h8 : q_oM2 true (q_mt i).2.2.1.1 (q_mt i).2.2.1.2.1 (q_mt i).2.2.1.2.2.1 (q_mt i).2.2.1.2.2.2 (Nat.add pc 3) lo st hp iv cl sl = some z := h0
      exact q_s_m2 (mx := true) (g := fun a b => if a < b then b else a) q_max_s (fun ws r rR hf => q_wid_s r rR hf) (fun H locs ls r a b hls w1 w2 w3 w4 k9 => va_mmax (own := q_on (q_cn i)) hx hb (hml.trans hls.symm) hown (by have := hts _ (q_g1 (q_G_mm_m (List.mem_map.mpr ⟨_, q_m3_i v3, rfl⟩))); exact this) (hts _ (q_g1 (q_G_mc_m (List.mem_of_getElem? (i := 0) rfl)))) (hts _ (q_g1 (q_G_mc_m (List.mem_of_getElem? (i := 2) rfl)))) (hts _ (q_g1 (q_G_mc_m (List.mem_of_getElem? (i := 3) rfl)))) (by rw [hR]; exact w1) (by rw [hR]; exact w2) (by rw [hR]; exact w3) (by rw [hR]; exact w4) hdec k9) h8 hz
    | false =>
    rw [hy6] at v2 h0
    cases hy7 : Nat.beq y 7 with
    | true =>
      have e7 := q_bq hy7; subst e7
      have v3 : q_m3 q_MM (q_cn i) idx 7 = true := v2
      have h8 : q_oM2 false (q_mt i).2.2.1.1 (q_mt i).2.2.1.2.1 (q_mt i).2.2.1.2.2.1 (q_mt i).2.2.1.2.2.2 (Nat.add pc 3) lo st hp iv cl sl = some z := h0
      exact q_s_m2 (mx := false) (g := fun a b => if b < a then b else a) q_min_s (fun ws r rR hf => q_wid_s r rR hf) (fun H locs ls r a b hls w1 w2 w3 w4 k9 => va_mmin (own := q_on (q_cn i)) hx hb (hml.trans hls.symm) hown (by have := hts _ (q_g1 (q_G_mm_m (List.mem_map.mpr ⟨_, q_m3_i v3, rfl⟩))); exact this) (hts _ (q_g1 (q_G_mc_m (List.mem_of_getElem? (i := 1) rfl)))) (hts _ (q_g1 (q_G_mc_m (List.mem_of_getElem? (i := 2) rfl)))) (hts _ (q_g1 (q_G_mc_m (List.mem_of_getElem? (i := 4) rfl)))) (by rw [hR]; exact w1) (by rw [hR]; exact w2) (by rw [hR]; exact w3) (by rw [hR]; exact w4) hdec k9) h8 hz
    | false =>
    rw [hy7] at v2 h0
    cases hy8 : Nat.beq y 8 with
    | true =>
      have e8 := q_bq hy8; subst e8
      have v3 : q_m3 q_MM (q_cn i) idx 8 = true := v2
      have h8 : q_oAbs (q_mt i).2.2.1.1 (q_mt i).2.2.1.2.1 (q_mt i).2.2.1.2.2.1 (q_mt i).2.2.1.2.2.2 (Nat.add pc 3) lo st hp iv cl sl = some z := h0
      exact q_s_abs hr (fun ws r rR hf => q_wid_s r rR hf) (fun H locs ls r a hls w1 w2 w3 w4 k9 => va_mabs (own := q_on (q_cn i)) hx hb (hml.trans hls.symm) hown (by have := hts _ (q_g1 (q_G_mm_m (List.mem_map.mpr ⟨_, q_m3_i v3, rfl⟩))); exact this) (hts _ (q_g1 (q_G_mc_m (List.mem_of_getElem? (i := 5) rfl)))) (hts _ (q_g1 (q_G_mc_m (List.mem_of_getElem? (i := 2) rfl)))) (hts _ (q_g1 (q_G_mc_m (List.mem_of_getElem? (i := 6) rfl)))) (by rw [hR]; exact w1) (by rw [hR]; exact w2) (by rw [hR]; exact w3) (by rw [hR]; exact w4) hdec k9) h8 hz
    | false =>
    rw [hy8] at v2 h0
    have h8 : q_oCall cf (q_mt i) (q_mt x) x y pc lo st hp iv cl sl = some z := h0
    obtain ⟨v3, v4⟩ := q_and_i (show q_an (Nat.ble (x + 1) 369) _ = true from v2)
    obtain ⟨v5, v6⟩ := q_and_i v4
    have hx9 : x < 369 := q_bl v3
    have hSL := q_m1_i v5
    obtain ⟨c1, c2, c3, c4, c5, c6, c7, c8, c9⟩ := q_callee hx9 hts
    have hn9 : ∀ arR : List Value, arR.length = (q_mt x).2.1.2.2.1 → ∀ sig, parseMethodDescriptor (q_y x).desc = some sig → arR.length = sig.parameters.length := fun arR hlen sig hs => by
      have := c8 sig hs
      rw [v5] at this
      rw [hlen, ← this]; rfl
    have hst : (Cond.static (q_y x)).before args s = true := hts _ (q_g1 (q_G_ss_m (List.mem_map.mpr ⟨x, hSL, rfl⟩)))
    cases hy1 : Nat.beq y 1 with
    | true =>
      rw [hy1] at v6
      obtain ⟨v7, v8⟩ := q_and_i v6
      have hnh := q_nh_i v8
      refine q_call_s hX' hhr hcf hEnd hx9 (fun ws tys H locs ls arR restR lfs hK hP hS hls hlen hwid hrec hfr hce hM => ?_) h8 hz hLF
      exact vx_runS (n := arR.length) (As := arR) (Ts := q_GL2) (own := q_on (q_cn i)) (nL := q_mL i) ⟨hx, hb, hml, hown, hts⟩ hM ⟨⟨rfl, rfl, hfr.1, hfr.2, c1, by rw [← q_cw_c hnh]; exact List.mem_cons_self, by rw [← q_cw_c hnh]; exact c2, c3, c4, hn9 arR hlen, hts _ (q_g1 (q_G_ml_m (List.mem_map.mpr ⟨_, q_m3_i v7, rfl⟩)))⟩, hst⟩ (q_preS hKX hK hP hS) rfl rfl hls rfl (lv_room hwid) hdec hce
    | false =>
    rw [hy1] at v6
    cases hy3 : Nat.beq y 3 with
    | true =>
      rw [hy3] at v6
      obtain ⟨v7, v8⟩ := q_and_i v6
      have hnh := q_nh_i v8
      have hnest : (Cond.methodLinkNest (q_on (q_cn i)) idx (q_y x) q_host).before args s = true := va_Nw.use rfl (kBL _ (List.mem_append_right _ (List.mem_append_left _ (List.mem_map.mpr ⟨_, q_m3_i v7, rfl⟩))))
      refine q_call_s hX' hhr hcf hEnd hx9 (fun ws tys H locs ls arR restR lfs hK hP hS hls hlen hwid hrec hfr hce hM => ?_) h8 hz hLF
      exact vx_runSN (host := q_host) (n := arR.length) (As := arR) (Ts := q_GL2) (own := q_on (q_cn i)) (nL := q_mL i) ⟨hx, hb, hml, hown, hts⟩ hM ⟨⟨⟨rfl, rfl, hfr.1, hfr.2, c1, by rw [← q_cw_c hnh]; exact List.mem_cons_self⟩, by rw [← q_cw_c hnh]; exact c2, c3, c4, hn9 arR hlen, hnest⟩, hst, trivial⟩ (q_preS hKX hK hP hS) rfl rfl hls rfl (lv_room hwid) hdec hce
    | false =>
    rw [hy3] at v6
    obtain ⟨v7, v8⟩ := q_and_i (show q_an (Nat.beq y 9) _ = true from v6)
    obtain ⟨v9, v10⟩ := q_and_i v8
    obtain ⟨h91, h92, hnh⟩ := q_nh_n (q_not_i v10)
    refine q_call_s hX' hhr hcf hEnd hx9 (fun ws tys H locs ls arR restR lfs hK hP hS hls hlen hwid hrec hfr hce hM => ?_) h8 hz hLF
    exact vx_runSX (hh := q_hh x) (n := arR.length) (As := arR) (Ts := q_GL2) (own := q_on (q_cn i)) (nL := q_mL i) ⟨hx, hb, hml, hown, hts⟩ hM (q_csw hfr c1 (q_cw_h hnh) c2 c3 c4 (hn9 arR hlen) (hts _ (q_g1 (q_G_ml_m (List.mem_map.mpr ⟨_, q_m3_i v9, rfl⟩)))) hst) (q_preS hKX hK hP hS) rfl rfl hls rfl (lv_room hwid) hdec hce
  case invokespecial idx =>
    obtain ⟨v1, v2⟩ := q_and_i (show q_an (Nat.beq len 3) _ = true from hv); have e1 := q_bq v1; subst e1
    have h0 : (bif Nat.beq y 5 then q_oObj (q_mt i).2.2.1.1 (q_mt i).2.2.1.2.1 (Nat.add pc 3) lo st hp iv cl sl else q_oCall cf (q_mt i) (q_mt x) x y pc lo st hp iv cl sl) = some z := h
    cases hy5 : Nat.beq y 5 with
    | true =>
      rw [hy5] at v2 h0
      have h8 : q_oObj (q_mt i).2.2.1.1 (q_mt i).2.2.1.2.1 (Nat.add pc 3) lo st hp iv cl sl = some z := h0
      have v3 : q_m2 q_OL (q_cn i) idx = true := v2
      exact q_s_obj (fun H locs ls r a hls w1 w2 k9 => W.objInit (own := q_on (q_cn i)) hx hb hown (hts _ (q_g1 (q_G_ol_m (List.mem_map.mpr ⟨_, q_m2_i v3, rfl⟩)))) (hts _ (q_g1 (q_G_oc_m (List.mem_of_getElem? (i := 0) rfl)))) (hts _ (q_g1 (q_G_oc_m (List.mem_of_getElem? (i := 1) rfl)))) (g := F0 m pc ls (.ref a :: r)) rfl (hls.trans hml.symm) rfl hdec (by rw [hR]; exact w1) (by rw [hR]; have : 2 * (F0 m pc ls (.ref a :: r)).monitorRoom = 0 := rfl; rw [this, Nat.zero_add]; exact w2) k9) h8 hz
    | false =>
    rw [hy5] at v2 h0
    have h8 : q_oCall cf (q_mt i) (q_mt x) x y pc lo st hp iv cl sl = some z := h0
    obtain ⟨v3, v4⟩ := q_and_i (show q_an (Nat.ble (x + 1) 369) _ = true from v2)
    obtain ⟨v5, v6⟩ := q_and_i v4
    obtain ⟨v7, v8⟩ := q_and_i v6
    obtain ⟨v9, v10⟩ := q_and_i v8
    have hx9 : x < 369 := q_bl v3
    have hIL := q_m1_i v5
    have hnh := q_nh_i v7
    have hin := of_decide_eq_true v9
    have hrt := q_IL_n x hIL
    have hns := q_IL_s x hIL
    obtain ⟨c1, c2, c3, c4, c5, c6, c7, c8, c9⟩ := q_callee hx9 hts
    have hcn : q_cw x = .code (q_y x) (q_bc x) (q_mL x) none := by rw [q_cw_c hnh, hrt]
    have hinst : (Cond.instanceMethod (q_y x)).before args s = true := hts _ (q_g1 (q_G_ii_m (List.mem_map.mpr ⟨x, hIL, rfl⟩)))
    cases hy2 : Nat.beq y 2 with
    | true =>
      rw [hy2] at v10
      have e2 := q_bq hy2; subst e2
      refine q_call_s hX' hhr hcf hEnd hx9 (fun ws tys H locs ls arR restR lfs hK hP hS hls hlen hwid hrec hfr hce hM => ?_) h8 hz hLF
      obtain ⟨k, a, t9, fs, rfl, he⟩ := hrec (Or.inr (Or.inl rfl))
      have hn9 : ∀ sig, parseMethodDescriptor (q_y x).desc = some sig → t9.length = sig.parameters.length := fun sig hs => by
        have := c8 sig hs
        rw [hns] at this
        have h9 : t9.length + 1 = (q_mt x).2.1.2.2.1 := hlen
        rw [← this]; show _ = _ - 1; omega
      have hst9 : (Value.ref a :: t9).reverse ++ restR = t9.reverse ++ .ref a :: restR := by rw [List.reverse_cons, List.append_assoc]; rfl
      exact vx_runI (b := a) (n := t9.length) (As := t9) (Ts := q_GL2) (own := q_on (q_cn i)) (nL := q_mL i) ⟨hx, hb, hml, hown, hts⟩ hM ⟨⟨rfl, rfl, hfr.1, hfr.2, c1, by rw [← hcn]; exact List.mem_cons_self, by rw [← hcn]; exact c2, c3, c4, hn9, hts _ (q_g1 (q_G_ml_m (List.mem_map.mpr ⟨_, q_m3_i v10, rfl⟩)))⟩, hin, hinst⟩ (q_preS (arR := .ref a :: t9) hKX hK hP hS) rfl rfl hls hst9 (lv_room hwid) hdec hce
    | false =>
      rw [hy2] at v10
      obtain ⟨v11, v12⟩ := q_and_i (show q_an (Nat.beq y 4) _ = true from v10)
      have e4 := q_bq v11; subst e4
      have hnest : (Cond.methodLinkNest (q_on (q_cn i)) idx (q_y x) q_host).before args s = true := va_Nw.use rfl (kBL _ (List.mem_append_right _ (List.mem_append_right _ (List.mem_append_left _ (List.mem_map.mpr ⟨_, q_m3_i v12, rfl⟩)))))
      refine q_call_s hX' hhr hcf hEnd hx9 (fun ws tys H locs ls arR restR lfs hK hP hS hls hlen hwid hrec hfr hce hM => ?_) h8 hz hLF
      obtain ⟨k, a, t9, fs, rfl, he⟩ := hrec (Or.inr (Or.inr rfl))
      have hn9 : ∀ sig, parseMethodDescriptor (q_y x).desc = some sig → t9.length = sig.parameters.length := fun sig hs => by
        have := c8 sig hs
        rw [hns] at this
        have h9 : t9.length + 1 = (q_mt x).2.1.2.2.1 := hlen
        rw [← this]; show _ = _ - 1; omega
      have hst9 : (Value.ref a :: t9).reverse ++ restR = t9.reverse ++ .ref a :: restR := by rw [List.reverse_cons, List.append_assoc]; rfl
      exact vx_runIN (host := q_host) (b := a) (n := t9.length) (As := t9) (Ts := q_GL2) (own := q_on (q_cn i)) (nL := q_mL i) ⟨hx, hb, hml, hown, hts⟩ hM ⟨⟨⟨rfl, rfl, hfr.1, hfr.2, c1, by rw [← hcn]; exact List.mem_cons_self⟩, by rw [← hcn]; exact c2, c3, c4, hn9, hnest⟩, hin, hinst⟩ (q_preS (arR := .ref a :: t9) hKX hK hP hS) rfl rfl hls hst9 (lv_room hwid) hdec hce
  all_goals exact absurd (show (none : q_O) = some z from h) (fun h9 => by cases h9)
end q_asm
