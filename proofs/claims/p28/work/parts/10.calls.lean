/-! Part 10: contracts, calls, answers, throws. -/
noncomputable def q_rm (i : Nat) : Room := { frames := (q_mt i).2.2.1.1, cells := (q_mt i).2.2.1.2.2.1, slots := (q_mt i).2.2.1.2.2.2, locals := (q_mt i).2.2.1.2.1 }
def q_nms : List String := ["java/lang/RuntimeException", "java/lang/Exception"]
/-- the words of a throw whose constructor passes on by the pool's entry ix -/
def q_atY (own : String) (ic : Nat) (X : String) : List Cond :=
  [.methodLink own ic (Bundle.initS X), .instantiable X 6, .castable X X, .selects X Bundle.tFill0 Bundle.tFill0, .selects X Bundle.tFill Bundle.tFill, .fieldLink Bundle.tN 198 Bundle.tN "backtrace" "Ljava/lang/Object;", .lays Bundle.tN Bundle.tN "backtrace" "Ljava/lang/Object;"] ++
  ([("cause", "Ljava/lang/Throwable;"), ("stackTrace", Bundle.steD), ("suppressedExceptions", Bundle.listD), ("detailMessage", "Ljava/lang/String;"), ("backtrace", "Ljava/lang/Object;")].map (fun q => Cond.lays X Bundle.tN q.1 q.2))
def q_atX (own : String) (ic : Nat) (X : String) (ix : Nat) (rx : ByteArray) : List Cond :=
  (Bundle.throwableAtoms.filter vx_no) ++ Bundle.throwableSAtoms ++ (Bundle.passSAtoms X "java/lang/RuntimeException" ix rx ++ Bundle.chainSAtoms "java/lang/RuntimeException" ["java/lang/Exception"]) ++ q_atY own ic X
def q_rx : ByteArray := prog_29_method_4_code
def q_tw (q : Nat × Nat × Nat × Nat) : List Cond := if q.2.2.1 = 3 then q_atX (q_on q.1) q.2.2.2 (q_ex 3) 13 q_rx else vx_atS (q_on q.1) q.2.2.2 (q_ex q.2.2.1) q_nms
def q_TW : List Cond := q_TH.flatMap (fun q => (q_tw q).filter goodWord)
def q_BT : List Cond := q_TH.flatMap (fun q => (q_tw q).filter (fun w => !goodWord w))
def q_host : String := "StepperTable"
def q_BN : List Cond := q_NS.map (fun q => Cond.methodLinkNest (q_on q.1) q.2.1 (q_y q.2.2) q_host)
def q_BI : List Cond := q_NI.map (fun q => Cond.methodLinkNest (q_on q.1) q.2.1 (q_y q.2.2) q_host)
def q_BC : List Cond := (List.range 4).map (fun n => Cond.castable (q_ex n) (q_ex n))
def q_BL : List Cond := q_BT ++ (q_BN ++ (q_BI ++ q_BC))
def q_bk : Cond → Bool
  | .castable .. => true
  | .declares _ => true
  | .methodLinkNest .. => true
  | _ => false
theorem q_BL_k : q_BL.all q_bk = true := by decide +kernel
theorem q_bk_w {w : Cond} (h : q_bk w = true) {s U : State} (hW : s.WarmedH U.vm) (hZ : va_Nw w s) : va_Nw w U := by
  cases w with
  | castable C T => exact va_Nw.warmC hW hZ
  | declares x => exact va_Nw.warmD hW hZ
  | methodLinkNest a i x b => exact va_Nw.warmM hW hZ
  | _ => cases h
theorem q_bk_t {w : Cond} (h : q_bk w = true) : w.onTables = true := by
  cases w with
  | castable C T => rfl
  | declares x => rfl
  | methodLinkNest a i x b => rfl
  | _ => cases h
def q_GL2 : List Cond := q_GL ++ q_TW
def qd_jp : List (Nat × Nat) := [(1, 11), (1, 12), (1, 14), (1, 15), (1, 16), (1, 17), (1, 18), (1, 19), (1, 20), (1, 21), (1, 22), (1, 23), (1, 24), (1, 30), (1, 31), (1, 32), (1, 38), (1, 47), (1, 54), (1, 80), (1, 87), (1, 93), (1, 99), (1, 132), (1, 193), (1, 199), (1, 209), (2, 15), (2, 21), (2, 35), (2, 41), (2, 76), (2, 109), (2, 169), (2, 180), (2, 181), (2, 182), (2, 183), (2, 184), (2, 185), (2, 186), (2, 187), (2, 188), (2, 189), (2, 190), (2, 191), (2, 192), (2, 193), (2, 194), (2, 195), (2, 196), (2, 197), (2, 198), (2, 199), (2, 200), (2, 201), (2, 202), (2, 203), (2, 204), (2, 206), (2, 209), (2, 210), (2, 211), (2, 212), (2, 213), (2, 214), (2, 215), (2, 216), (2, 217), (2, 218), (2, 219), (2, 220), (2, 221), (2, 222), (2, 223), (2, 224), (2, 225), (2, 226), (2, 227), (3, 94), (3, 95), (3, 96), (3, 146), (3, 147), (3, 148), (3, 149), (3, 150), (3, 151), (3, 156), (4, 24), (4, 45), (4, 46), (4, 47), (4, 48), (4, 49), (4, 50), (4, 153), (4, 162), (4, 163), (4, 164), (4, 165), (4, 166), (4, 167), (4, 168), (4, 169), (4, 170), (4, 171), (4, 172), (4, 173), (4, 174), (4, 175), (4, 176), (4, 177), (4, 178), (4, 179), (4, 180), (4, 181), (4, 182), (4, 183), (4, 184), (4, 185), (4, 186), (4, 187), (4, 188), (4, 189), (4, 190), (4, 191), (4, 192), (4, 193), (4, 194), (4, 195), (4, 196), (4, 197), (4, 198), (4, 199), (4, 200), (4, 201), (4, 202), (4, 203), (4, 205), (4, 206), (4, 207), (4, 208), (4, 209), (4, 210), (4, 211), (4, 212), (4, 213), (4, 214), (4, 215), (4, 216), (4, 217), (4, 218), (4, 219), (4, 220), (4, 221), (4, 222), (4, 223), (4, 224), (4, 225), (4, 226), (4, 227), (4, 228), (4, 229), (4, 233), (5, 2), (5, 3), (5, 4), (5, 5), (5, 6), (5, 7), (5, 8), (5, 9), (5, 10), (5, 12), (5, 13), (5, 14), (5, 15), (5, 16), (5, 17), (5, 30), (5, 39), (5, 40), (5, 41), (5, 42), (5, 43), (5, 44), (5, 45), (5, 46), (5, 47), (5, 49), (5, 50), (5, 51), (5, 52), (5, 53), (5, 54), (5, 126), (5, 167), (5, 172), (5, 173), (5, 174), (5, 175), (5, 176), (5, 177), (5, 178), (5, 179), (5, 180), (5, 182), (5, 183), (5, 184), (5, 185), (5, 186), (5, 187), (6, 120), (6, 121), (6, 183), (7, 23), (7, 121), (7, 178), (7, 179), (8, 154), (8, 155), (9, 26), (9, 27), (9, 28), (9, 29), (9, 30), (9, 31), (9, 32), (9, 33), (9, 203), (9, 204), (9, 205), (9, 206), (9, 207), (9, 208), (9, 209), (9, 210), (9, 211), (9, 212), (9, 213), (9, 214), (9, 215), (9, 216), (9, 217), (9, 218), (9, 219), (9, 220), (9, 221), (0, 27)]
def qd_jw : List Cond := qd_jp.filterMap (fun q => (q_sg q.1)[q.2]?)
theorem qd_jw_in : ∀ w ∈ qd_jw, w ∈ lw_tbl := fun w hw => by
  obtain ⟨q, -, hq⟩ := List.mem_filterMap.mp hw
  exact q_sg_in _ _ (List.mem_of_getElem? hq)
theorem qd_TW_k : q_TW.all (fun w => decide (w ∈ qd_jw) && goodWord w) = true := by decide +kernel
theorem q_TW_g : GoodIn lw_tbl q_TW := fun w hw => ⟨qd_jw_in w (goodIn_of (big := qd_jw) _ qd_TW_k w hw).1, (goodIn_of (big := qd_jw) _ qd_TW_k w hw).2⟩
theorem q_GL2_g : GoodIn lw_tbl q_GL2 := q_ga q_GL_g q_TW_g
theorem q_g1 {w : Cond} (h : w ∈ q_GL) : w ∈ q_GL2 := List.mem_append_left _ h
noncomputable def q_wsM (i : Nat) : List Cond := q_cw i :: q_GL2
def q_xn (xs : Nat → Int32) (n : Nat) : Nat → Int32 := bif Nat.beq n 0 then xs else fun j => Int32.ofInt (q_lg n j)
def q_sL : List Nat := (List.range 7).map (fun i => (q_sb i).length)
def q_sB : List (List Int32) := (List.range 7).map (fun i => (q_sb i).map Int32.ofInt)
def q_st9 (n : Nat) : String := match n with
  | 0 => "x"
  | 1 => "y"
  | 2 => "z"
  | 3 => "begin"
  | 4 => "start"
  | 5 => "compensate"
  | _ => "detect"
def q_KX (base : Nat) (bs : Nat → Nat) (L : Nat) (xs : Nat → Int32) (U : State) : Prop :=
  (∀ w ∈ q_BL, va_Nw w U) ∧ (∀ q ∈ q_SL, ∃ (tx : String) (a : Nat), vk_R (q_on q.1) q.2 tx a U) ∧ (∀ a b, a < 4 → b < 4 → a ≠ b → va_Nc (q_ex a) (q_ex b) U) ∧ va_AO q_tbl U ∧
  vx_Zq Bundle.tN "UNASSIGNED_STACK" Bundle.steD (q_A base) U U.heap ∧ vx_Zq Bundle.tN "SUPPRESSED_SENTINEL" Bundle.listD (q_A base) U U.heap ∧ (∀ n, n ≤ 2 → va_X (bs n) (q_ln L n) (q_xn xs n) U U.heap) ∧ (∀ n, n ≤ 2 → 1 ≤ n → va_Z q_su (q_sf n) "[I" (.ref (bs n)) (q_A base) U U.heap) ∧ (∃ adV, vk_S 7 q_sL q_sB (fun i => bs (3 + i)) adV (q_A base) U U.heap) ∧ (∀ q ∈ q_WL, vk_R (q_on q.1) q.2.1 (q_st9 q.2.2) (bs (3 + q.2.2)) U) ∧ va_Z "java/lang/String" "COMPACT_STRINGS" "Z" (.int 1) (q_A base) U U.heap ∧ (∃ v9 : Value, v9.category = 1 ∧ va_Z "jdk/internal/util/Preconditions" "SIOOBE_FORMATTER" "Ljava/util/function/BiFunction;" v9 (q_A base) U U.heap) ∧ va_Z "java/lang/Math" "negativeZeroFloatBits" "J" (.long (-2147483648)) (q_A base) U U.heap ∧ (∀ n, n ≤ 2 → bs n < base) ∧ base ≤ U.heap.size
theorem q_KX.go {base : Nat} {bs : Nat → Nat} {L : Nat} {xs : Nat → Int32} {s U : State} {locs : List Loc} (h : q_KX base bs L xs s) (hW : s.WarmedH U.vm) (hS : va_S (q_A base) s.heap U.heap locs) : q_KX base bs L xs U := by
  obtain ⟨h1, h2, h3, h4, h5, h6, h7, h7z, ⟨adV, h7s⟩, h7w, h7c, ⟨v9, h7k, h7f⟩, h7n, h8, h9⟩ := h
  refine ⟨fun w hw => q_bk_w (List.all_eq_true.mp q_BL_k w hw) hW (h1 w hw), fun q hq => ?_, fun a b ha hb hab => (h3 a b ha hb hab).moved hW.alike, h4.moved hW.alike, (h5.kept hS.2.1).moved hW.alike, (h6.kept hS.2.1).moved hW.alike, fun n hn => ((h7 n hn).kept ?_).moved hW.alike, fun n hn h1n => ((h7z n hn h1n).kept hS.2.1).moved hW.alike, ⟨adV, (h7s.kept hS.2.1).moved hW.alike⟩, fun q hq => (h7w q hq).warm hW, (h7c.kept hS.2.1).moved hW.alike, ⟨v9, h7k, (h7f.kept hS.2.1).moved hW.alike⟩, (h7n.kept hS.2.1).moved hW.alike, h8, Nat.le_trans h9 hS.1⟩
  · obtain ⟨tx, a, h⟩ := h2 q hq
    exact ⟨tx, a, h.warm hW⟩
  · exact hS.2.1 (bs n) (Nat.lt_of_lt_of_le (h8 n hn) h9) (Nat.not_le.mpr (h8 n hn))
section q_ct
variable (ρ : Nat → Int) (bs : Nat → Nat) (base L : Nat) (xs : Nat → Int32) (D : va_G)
def q_Pre (ws : va_W) (tys : List (ClassId × FieldType)) (ar : List Value) : Array Value → State → Prop := va_Pc ar (fun U => va_K D q_cl tys U ∧ va_P D q_cl ws U.heap ∧ q_KX base bs L xs U)
def q_St (ws0 : va_W) (hp : q_H) (iv : q_I) (ws : va_W) (tys : List (ClassId × FieldType)) (t : State) : Prop := q_ok ρ iv ∧ va_K D q_cl tys t ∧ va_P D q_cl ws t.heap ∧ va_D (q_A base) ws ∧ q_W ρ bs ws tys hp ∧ q_Ex ws0 ws
def q_Qc (ws0 : va_W) (lfs : List q_Lf) : Array Value → State → Outcome → State → Prop := fun _ st o t =>
  (∃ lf ∈ lfs, ∃ ws tys, q_St ρ bs base D ws0 lf.2.2.1 lf.2.2.2 ws tys t ∧ ((lf.1 = 0 ∧ o = .returned none) ∨ (lf.1 = 1 ∧ ∃ V, o = .returned (some V) ∧ q_rv ρ bs ws lf.2.1 V))) ∧ va_F (q_A base) st t
def q_XC (ws0 : va_W) (lfs : List q_Lf) : String → State → State → Prop := fun E st t =>
  (∃ lf ∈ lfs, ∃ ws tys, q_St ρ bs base D ws0 lf.2.2.1 lf.2.2.2 ws tys t ∧ ∃ k, k < 4 ∧ lf.1 = k + 2 ∧ E = q_ex k) ∧ va_F (q_A base) st t
/-- what a run of the method x says of it -/
def q_Con (l : Launch) (cf : Nat → List q_V → q_H → q_I → Option (List q_Lf)) : Prop :=
  ∀ (x : Nat) (ar : List q_V) (hp : q_H) (iv : q_I) (lfs : List q_Lf), cf x ar hp iv = some lfs → x < 369 → q_ok ρ iv → ∀ (ws : va_W) (tys : List (ClassId × FieldType)) (arR : List Value), va_D (q_A base) ws → q_W ρ bs ws tys hp → q_F2 (q_rv ρ bs ws) ar arR →
    vx_Met l (q_y x) (q_wsM x) (q_rm x) (q_Pre bs base L xs D ws tys arR) (q_Qc ρ bs base D ws lfs) (q_XC ρ bs base D ws lfs) (q_rm x).cells (q_rm x).slots (q_A base)
end q_ct
theorem q_Pre_b {bs : Nat → Nat} {base L : Nat} {xs : Nat → Int32} {D : va_G} {ws : va_W} {tys : List (ClassId × FieldType)} {ar : List Value} : FrameBlind (q_Pre bs base L xs D ws tys ar) := by
  intro a U g mk h
  obtain ⟨h1, h2, h3, h4⟩ := h
  exact ⟨h1, va_K.moved (u := U) (U := U.calling g mk a) (Vm.Alike.refl U.vm) h2, h3, q_KX.go (s := U) (U := U.calling g mk a) (locs := []) h4 (State.WarmedH.refl U) va_S.rf⟩
section q_cx
variable {p : Program} {l : Launch} {e : Env} {R : Room} {s : State} {m : MethodId} {args : Array Value} {below : List Frame} {meth : Method} {c : Code} {H : Heap} {locs : List Loc} {cells slots : Nat} {Q : State → Prop}
theorem q_callX {mc ms : Nat} {free A : Nat → Prop} {Qa : State → Outcome → State → Prop} {XC : String → State → State → Prop} {pc : Nat} {ls : Array Slot} {st0 rest : List Value}
    (hr : vx_Run p l e R s m args below meth c H locs cells slots mc ms (F0 m pc ls st0) rest Qa XC free) (hS : va_S A s.heap H locs) (hf : ∀ q, free q → A q) (hQ : ∀ st o t, Qa st o t → va_F A st t) (hX : ∀ E st t, XC E st t → va_F A st t)
    (kx : ∀ (E : String) (ce : Cell) (q9 : Addr) (st t : State) (locs1 : List Loc), st.heap = H → s.vm.Alike t.vm → XC E st t → va_S A s.heap t.heap locs1 → t.heap[q9]? = some ce → ce.vm = .none → s.vm.findClass E = some ce.cls → vx_W p l e R s m args below meth c t.heap locs1 (cells + mc) (slots + ms) Q (F0 m pc ls rest) q9)
    (kk : ∀ (v : Option Value) (st t : State) (locs1 : List Loc), st.heap = H → s.vm.Alike t.vm → Qa st (.returned v) t → va_S A s.heap t.heap locs1 → W p l e R s m args below meth c t.heap locs1 (cells + mc) (slots + ms) Q (F0 m (pc + 3) ls (v.toList ++ rest))) : W p l e R s m args below meth c H locs cells slots Q (F0 m pc ls st0) := by
  intro T hT X
  rcases hr T hT X with ⟨v, st₀, t, T', L, h0, X', hL, e1, e2, hq, st⟩ | ⟨q, st₀, t, T', L, E, ce, h0, X', hL, e1, e2, hx, hce, hcv, hcl, st⟩
  · obtain ⟨k1, k2, k3⟩ := vx_keep h0 e1 hS (fun q _ h => h) hf hL (hQ _ _ _ hq)
    obtain ⟨t2, a1, b1⟩ := kk v st₀ t (locs ++ L) h0 (by rw [← e2]; exact X'.warmed.alike) hq (by rw [← e1]; exact k3) T' e1 X'
    exact ⟨t2, st t2 a1, b1⟩
  · obtain ⟨k1, k2, k3⟩ := vx_keep h0 e1 hS (fun q _ h => h) hf hL (hX _ _ _ hx)
    obtain ⟨t2, a1, b1⟩ := kx E ce q st₀ t (locs ++ L) h0 (by rw [← e2]; exact X'.warmed.alike) hx (by rw [← e1]; exact k3) hce hcv hcl T' e1 X'
    exact ⟨t2, st.trans a1, b1⟩
end q_cx
theorem q_take_s {α β : Type} {R : α → β → Prop} {f : Nat → List α → List α → Option (List α × List α)} (h0 : ∀ acc r, f 0 acc r = some (acc, r)) (h1 : ∀ n acc r, f (n + 1) acc r = (q_pop r).bind fun p => f n (p.1 :: acc) p.2) :
    ∀ (n : Nat) (acc r : List α) (ar rest : List α) (accR rR : List β), f n acc r = some (ar, rest) → q_F2 R acc accR → q_F2 R r rR → ∃ arR restR, accR.reverse ++ rR = arR.reverse ++ restR ∧ q_F2 R ar arR ∧ q_F2 R rest restR ∧ arR.length = n + accR.length := by
  intro n
  induction n with
  | zero =>
    intro acc r ar rest accR rR h ha hr
    rw [h0] at h
    cases q_so h
    exact ⟨accR, rR, rfl, ha, hr, by omega⟩
  | succ n ih =>
    intro acc r ar rest accR rR h ha hr
    rw [h1] at h
    obtain ⟨p, h2, h⟩ := q_bd_i h
    rw [q_pop_i h2] at hr
    obtain ⟨b, r2, rfl, g1, g2⟩ := q_F2_c hr
    obtain ⟨arR, restR, k1, k2, k3, k4⟩ := ih _ _ _ _ (b :: accR) r2 h ⟨g1, ha⟩ g2
    refine ⟨arR, restR, ?_, k2, k3, ?_⟩
    · rw [← k1, List.reverse_cons, List.append_assoc]; rfl
    · rw [k4]; show n + (accR.length + 1) = n + 1 + accR.length; omega
theorem q_conts_m {hh : List (Nat × Nat × Nat × Nat)} {pc : Nat} {lo : q_L} {rest : List q_V} {cl sl : Nat} : ∀ {l : List q_Lf} {lf : q_Lf}, lf ∈ l → (∀ c ∈ (q_cont hh pc lo rest cl sl lf).1, c ∈ (q_conts hh pc lo rest cl sl l).1) ∧ (∀ c ∈ (q_cont hh pc lo rest cl sl lf).2, c ∈ (q_conts hh pc lo rest cl sl l).2)
  | [], lf, h => by cases h
  | x :: l, lf, h => by
    show (∀ c ∈ _, c ∈ q_app (q_cont hh pc lo rest cl sl x).1 (q_conts hh pc lo rest cl sl l).1) ∧ (∀ c ∈ _, c ∈ q_app (q_cont hh pc lo rest cl sl x).2 (q_conts hh pc lo rest cl sl l).2)
    rw [q_app_g, q_app_g]
    rcases List.mem_cons.mp h with e | h
    · subst e
      exact ⟨fun c hc => List.mem_append_left _ hc, fun c hc => List.mem_append_left _ hc⟩
    · obtain ⟨h1, h2⟩ := q_conts_m (l := l) h
      exact ⟨fun c hc => List.mem_append_right _ (h1 c hc), fun c hc => List.mem_append_right _ (h2 c hc)⟩
/-- the handlers: as the class file has them, and as the pure machine has them -/
def q_hrel (cn : Nat) (a b : Nat × Nat × Nat × Nat) : Prop := a.1 = b.1 ∧ a.2.1 = b.2.1 ∧ a.2.2.1 = b.2.2.1 ∧ b.2.2.2 ≠ 0 ∧ a.2.2.2 < 4 ∧ (cn, b.2.2.2, a.2.2.2) ∈ q_XL
def q_pass (own : String) (args : Array Value) (s : State) (pc k : Nat) (z : ExceptionTableEntry) : Prop := covers z pc = false ∨ (z.catchType ≠ 0 ∧ ∃ nm : String, (Cond.classLink own z.catchType nm).before args s = true ∧ va_Nc (q_ex k) nm s)
theorem q_hd_s {cn pc k : Nat} {args : Array Value} {s : State} (hk : k < 4) (hts : ∀ w ∈ q_GL2, w.before args s = true) (hnc : ∀ a b, a < 4 → b < 4 → a ≠ b → va_Nc (q_ex a) (q_ex b) s) :
    ∀ (hh hR : List (Nat × Nat × Nat × Nat)), q_F2 (q_hrel cn) hh hR →
      (∀ h, q_hd hh pc k = some h → ∃ pre x suf, tableOf hR = pre ++ x :: suf ∧ (∀ z ∈ pre, q_pass (q_on cn) args s pc k z) ∧ covers x pc = true ∧ x.catchType ≠ 0 ∧ (Cond.classLink (q_on cn) x.catchType (q_ex k)).before args s = true ∧ x.handlerPc = h) ∧
      (q_hd hh pc k = none → ∀ z ∈ tableOf hR, q_pass (q_on cn) args s pc k z)
  | [], hR, hF => by
    rw [q_F2_n hF]
    exact ⟨fun h hh => (by cases (show (none : Option Nat) = some h from hh)), fun _ z hz => (by cases hz)⟩
  | a :: hh, hR, hF => by
    obtain ⟨b, r, rfl, ⟨e1, e2, e3, e4, e5, e6⟩, hF2⟩ := q_F2_c hF
    obtain ⟨ih1, ih2⟩ := q_hd_s hk hts hnc hh r hF2
    have hl : (Cond.classLink (q_on cn) b.2.2.2 (q_ex a.2.2.2)).before args s = true := hts _ (q_g1 (q_G_x_m (List.mem_map.mpr ⟨_, e6, rfl⟩)))
    have hcov : ∀ v : Bool, (bif Nat.ble a.1 pc then Nat.ble (Nat.succ pc) a.2.1 else false) = v → covers (⟨b.1, b.2.1, b.2.2.1, b.2.2.2⟩ : ExceptionTableEntry) pc = v := by
      intro v hv
      rw [e1, e2] at hv
      rw [← hv]
      show (decide (b.1 ≤ pc) && decide (pc < b.2.1)) = _
      rcases q_ble (a := b.1) (b := pc) with ⟨d, d2⟩ | ⟨d, d2⟩ <;> rcases q_ble (a := Nat.succ pc) (b := b.2.1) with ⟨d3, d4⟩ | ⟨d3, d4⟩ <;> rw [d, d3]
      · rw [decide_eq_true d2, decide_eq_true (show pc < b.2.1 from d4)]; rfl
      · rw [decide_eq_true d2, decide_eq_false (show ¬ pc < b.2.1 from by omega)]; rfl
      · rw [decide_eq_false (by omega)]; rfl
      · rw [decide_eq_false (by omega)]; rfl
    have hstep : ∀ h, q_hd (a :: hh) pc k = h → (bif (bif Nat.ble a.1 pc then (bif Nat.ble (Nat.succ pc) a.2.1 then Nat.beq a.2.2.2 k else false) else false) then some a.2.2.1 else q_hd hh pc k) = h := fun h hh => hh
    have htab : tableOf (b :: r) = (⟨b.1, b.2.1, b.2.2.1, b.2.2.2⟩ : ExceptionTableEntry) :: tableOf r := rfl
    have hfar : ∀ (hno : (bif Nat.ble a.1 pc then (bif Nat.ble (Nat.succ pc) a.2.1 then Nat.beq a.2.2.2 k else false) else false) = false), q_pass (q_on cn) args s pc k ⟨b.1, b.2.1, b.2.2.1, b.2.2.2⟩ := by
      intro hno
      cases g1 : Nat.ble a.1 pc with
      | false => exact Or.inl (hcov false (by rw [g1]; rfl))
      | true =>
        cases g2 : Nat.ble (Nat.succ pc) a.2.1 with
        | false => exact Or.inl (hcov false (by rw [g1, g2]; rfl))
        | true =>
          rw [g1, g2] at hno
          refine Or.inr ⟨e4, q_ex a.2.2.2, hl, hnc k a.2.2.2 hk e5 (fun h => ?_)⟩
          rw [h, show (bif true then (bif true then Nat.beq a.2.2.2 a.2.2.2 else false) else false) = Nat.beq a.2.2.2 a.2.2.2 from rfl, Nat.beq_refl] at hno
          cases hno
    cases hb : (bif Nat.ble a.1 pc then (bif Nat.ble (Nat.succ pc) a.2.1 then Nat.beq a.2.2.2 k else false) else false) with
    | true =>
      refine ⟨fun h hh9 => ?_, fun h => ?_⟩
      · have h2 := hstep _ hh9
        rw [hb] at h2
        cases q_so h2
        obtain ⟨g1, g2⟩ := q_and_i hb
        obtain ⟨g2', g3⟩ := q_and_i g2
        have e7 := q_bq g3
        exact ⟨[], _, tableOf r, htab, (fun z hz => by cases hz), hcov true (by rw [g1, g2']; rfl), e4, (by rw [← e7]; exact hl), e3.symm⟩
      · have h2 := hstep _ h
        rw [hb] at h2
        cases h2
    | false =>
      refine ⟨fun h hh9 => ?_, fun h => ?_⟩
      · have h2 := hstep _ hh9
        rw [hb] at h2
        obtain ⟨pre, x, suf, k1, k2, k3⟩ := ih1 h h2
        refine ⟨_ :: pre, x, suf, (by rw [htab, k1]; rfl), fun z hz => ?_, k3⟩
        rcases List.mem_cons.mp hz with rfl | hz
        · exact hfar hb
        · exact k2 z hz
      · have h2 := hstep _ h
        rw [hb] at h2
        rw [htab]
        intro z hz
        rcases List.mem_cons.mp hz with rfl | hz
        · exact hfar hb
        · exact ih2 h2 z hz
