/-! Part 15: the law's start: what the Statement gives of it. -/
def q_tx : List (Nat × String) := [(127, "what is out of range"), (176, "steps is out of range"), (205, "the queue is empty"), (211, "moves is out of range"), (213, "the queue holds fewer moves"), (226, "how is out of range"), (231, "start is out of range"), (233, "move is out of range"), (253, "the move has no such step"), (292, "there is no such place"), (322, "time is negative"), (406, "no state is saved"), (411, "there is no such axis"), (414, "there is no such move"), (419, "the axis is not homed"), (421, "an axis is not homed"), (423, "there is an alarm"), (425, "the queue is not empty"), (431, "a coordinate is out of range"), (433, "the queue is full")]
theorem q_tx_l : (q_SL.all fun q => q_tx.any fun t => Nat.beq q.2 t.1 && Nat.beq q.1 8) = true := by decide +kernel
theorem q_tx_w : ∀ t ∈ q_tx, Cond.stringRef (q_on 8) t.1 t.2 ∈ lw_tbl := by decide +kernel
theorem q_tx_e : ∀ t ∈ q_tx, Cond.exactly (.string (q_on 8) t.1) "java/lang/String" ∈ flatC (Jvm.Cond.and given_1 narrow_1) := by decide +kernel
theorem q_BL_in : ∀ w ∈ q_BL, w ∈ lw_tbl := by decide +kernel
theorem q_nc_in : ∀ a, a < 4 → ∀ b, b < 4 → a ≠ b → Cond.not (.castable (q_ex a) (q_ex b)) ∈ flatC (Jvm.Cond.and given_1 narrow_1) := by decide +kernel
theorem q_kx_s {s : State} {b L : Nat} {xs : Nat → Int32} (hts : ∀ w ∈ lw_tbl, w.before #[Value.ref b] s = true) (hX : va_X b L xs s s.heap) (hbl : b < s.heap.size) (hgv : (Jvm.Cond.and given_1 narrow_1).before #[Value.ref b] s = true) : q_KX s.heap.size b L xs s := by
  have hf := flat_of_before _ hgv
  have hini : (Cond.initialized Bundle.tN).before #[Value.ref b] s = true := hts _ (by decide +kernel)
  have hA : ∀ a : Nat, a < s.heap.size → ¬ q_A s.heap.size a := fun a h h2 => absurd h (Nat.not_lt.mpr h2)
  refine ⟨fun w hw => va_Nw.of (q_bk_t (List.all_eq_true.mp q_BL_k w hw)) (hts w (q_BL_in w hw)), fun q hq => ?_, fun a c ha hc hac => va_Nc.of (hf _ (q_nc_in a ha c hc hac)), va_AO.of (hts _ (by decide +kernel)),
    vx_Zqof (hts _ (by decide +kernel)) hini (hf _ (by decide +kernel)) hA, vx_Zqof (hts _ (by decide +kernel)) hini (hf _ (by decide +kernel)) hA, hX, hbl, Nat.le_refl _⟩
  obtain ⟨t, ht, h⟩ := List.any_eq_true.mp (List.all_eq_true.mp q_tx_l q hq)
  obtain ⟨h1, h2⟩ := (Bool.and_eq_true _ _).mp h
  obtain ⟨cn, is⟩ := q
  have e1 : is = t.1 := q_bq h1
  have e2 : cn = 8 := q_bq h2
  subst e1; subst e2
  obtain ⟨a, c, ce, k, g1, -⟩ := Cond.exactly_spec (hf _ (q_tx_e t ht))
  exact ⟨t.2, a, vk_R.of (hts _ (q_tx_w t ht)) g1⟩
theorem q_dc_s {s : State} {args : Array Value} (c0 : ClassId) (hts : ∀ w ∈ q_GL2, w.before args s = true) : ∃ D : va_G, va_K D q_cl [] s := by
  have hk : ∀ c : Nat, ∃ (cC : ClassId) (iS : Nat → Nat), c < 10 → u_Kn s (q_on c) (q_cF c) (q_cN c) cC iS := by
    intro c
    by_cases h : c < 10
    · obtain ⟨cC, iS, hK⟩ := u_known (ws := q_GL2) hts (q_uin c h) (hts (.instantiable (q_on c) (q_cN c)) (q_g1 (q_G_i_m (List.mem_map.mpr ⟨c, List.mem_range.mpr h, rfl⟩))))
      exact ⟨cC, iS, fun _ => hK⟩
    · exact ⟨c0, fun _ => 0, fun h9 => absurd h9 h⟩
  obtain ⟨f, hf⟩ := Classical.skolem.mp hk
  obtain ⟨g, hg⟩ := Classical.skolem.mp hf
  refine ⟨(f, g), fun c q hq => ?_, fun k q hq => by cases hq⟩
  have hc : c < 10 := (List.getElem?_eq_some_iff.mp hq).1
  rw [q_cl_g c hc] at hq
  cases q_so hq
  exact hg c hc
theorem q_and63 (x : Int32) : 0 ≤ (x &&& 63).toInt ∧ (x &&& 63).toInt ≤ 63 := by
  have h : (x &&& 63).toBitVec.toNat ≤ 63 := by
    rw [Int32.toBitVec_and, BitVec.toNat_and]
    exact Nat.and_le_right
  have e : (x &&& 63).toInt = ((x &&& 63).toBitVec.toNat : Int) := by
    show (x &&& 63).toBitVec.toInt = _
    rw [BitVec.toInt_eq_toNat_cond, if_pos (by omega)]
  omega
/-- the script's ints and the law's choice of a call -/
def q_ρ (xs : Nat → Int32) (i : Nat) : Int := if i < 6 then (xs i).toInt else if i = 6 then (xs 0 &&& 63).toInt else (-(xs 2)).toInt
theorem q_ρ_rg (xs : Nat → Int32) : q_rg (q_ρ xs) := by
  intro i
  have key : ∀ x : Int32, -2147483648 ≤ x.toInt ∧ x.toInt < 2147483648 := fun x => ⟨Int32.le_toInt x, Int32.toInt_lt x⟩
  unfold q_ρ
  split
  · exact key _
  · split
    · exact key _
    · exact key _
theorem q_ρ_7 (xs : Nat → Int32) : -2147483647 ≤ q_ρ xs 2 → q_ρ xs 7 = -(q_ρ xs 2) := by
  intro h
  have h : -2147483647 ≤ (xs 2).toInt := h
  have h2 := Int32.toInt_lt (xs 2)
  show (-(xs 2)).toInt = -((xs 2).toInt)
  have e : -(xs 2) = Int32.ofInt (-((xs 2).toInt)) := by rw [Int32.ofInt_neg, Int32.ofInt_toInt]
  rw [e, q_w32_m, q_w32_id (by omega) (by omega)]
theorem q_ρ_6 (xs : Nat → Int32) : Int32.ofInt (q_ρ xs 0) &&& 63 = Int32.ofInt (q_ρ xs 6) := by
  show Int32.ofInt (xs 0).toInt &&& 63 = Int32.ofInt (xs 0 &&& 63).toInt
  rw [Int32.ofInt_toInt, Int32.ofInt_toInt]
theorem q_ρ_xs {L : Nat} (hL : L ≤ 6) (xs : Nat → Int32) : ∀ j, j < L → Int32.ofInt (q_ρ xs j) = xs j := by
  intro j hj
  show Int32.ofInt (if j < 6 then (xs j).toInt else _) = _
  rw [if_pos (by omega), Int32.ofInt_toInt]
noncomputable def q_h0 : q_H := (0, q_mk (0, 0, [], q_zT) 8)
/-- the intervals: the choice between a and b -/
noncomputable def q_ivr (a b : Int) : q_I := [(-2147483648, 2147483647), (-2147483648, 2147483647), (-2147483648, 2147483647), (-2147483648, 2147483647), (-2147483648, 2147483647), (-2147483648, 2147483647), (a, b), (-2147483648, 2147483647)]
noncomputable def q_okl (l : List q_Lf) : Bool := List.rec (motive := fun _ => Bool) true (fun h _ ih => bif Nat.beq h.1 1 then (bif Nat.beq h.2.1.1 0 then (bif q_ieq h.2.1.2 1 then ih else false) else false) else false) l
theorem q_okl_i : ∀ {l : List q_Lf}, q_okl l = true → ∀ lf ∈ l, lf.1 = 1 ∧ lf.2.1 = (0, 1)
  | [], _, lf, h => by cases h
  | a :: l, h, lf, hm => by
    have h : (bif Nat.beq a.1 1 then (bif Nat.beq a.2.1.1 0 then (bif q_ieq a.2.1.2 1 then q_okl l else false) else false) else false) = true := h
    obtain ⟨h1, h⟩ := q_and_i h
    obtain ⟨h2, h⟩ := q_and_i h
    obtain ⟨h3, h⟩ := q_and_i h
    rcases List.mem_cons.mp hm with rfl | hm
    · exact ⟨q_bq h1, Prod.ext (q_bq h2) (q_ieq_i h3)⟩
    · exact q_okl_i h lf hm
/-- the law's run: the intervals iv, L ints -/
noncomputable def q_tsI (L : Nat) (iv : q_I) : Bool := match q_rn q_mt q_df L 9 276 [(9, 0)] q_h0 iv with
  | none => false
  | some l => q_okl l
/-- the choice between a and b -/
noncomputable def q_tst (L : Nat) (a b : Int) : Bool := q_tsI L (q_ivr a b)
theorem q_cn276 : q_cn 276 = 10 := by decide +kernel
theorem q_on276 : q_on (q_cn 276) = R_law := by rw [q_cn276]; rfl
theorem q_hh276 : (q_mt 276).2.2.2 = [] := by decide +kernel
theorem q_rm276 : (q_mt 276).2.2.1 = (12, 442, 600002, 7302232) := by decide +kernel
theorem q_room : room_1 = q_rm 276 := by
  unfold q_rm
  rw [q_rm276]
  rfl
theorem q_mL276 : q_mL 276 = 10 := by decide +kernel
theorem q_rt276 : q_rt 276 = some .boolean := by decide +kernel
theorem q_bc276 : q_bc 276 = code := rfl
theorem q_law_of {p : Program} {e : Env} {s : State} {m : MethodId} {below : List Frame} {meth : Method} {c : Code} (l : Launch) (hflags : l.flags = flags0) {b L : Nat} {xs : Nat → Int32} (hL : L ≤ 6) (C0 : lw_At p s m meth c b L xs)
    {iv : q_I} {lfs : List q_Lf} (ho : q_ok (q_ρ xs) iv) (ht : q_okl lfs = true)
    (hgo : ∀ G : q_C → Prop, (∀ c z, q_step q_mt q_df (q_rn q_mt q_df L 8) L (q_mt 276) c = some z → (∀ c' ∈ z.1, G c') → (∀ lf ∈ z.2, lf ∈ lfs) → G c) → (∀ c e, q_Cle c e = true → G e → G c) → G (0, q_args [(9, 0)] 0, [], q_h0, iv, 0, 0)) : W p l e room_1 s m #[Value.ref b] below meth c s.heap [] 0 0 (lw_Z below #[Value.ref b] s) (entryFrame m ([Value.ref b] : List Value).toArray 10) := by
  obtain ⟨hx, hb, hret, hml, hown, hts, hX, hbl, hlocks, hgv⟩ := C0
  have hts2 : ∀ w ∈ q_GL2, w.before #[Value.ref b] s = true := fun w hw => hts w (q_GL2_g w hw).1
  have hst : l.stackTraces = false := by
    unfold Launch.stackTraces
    rw [hflags]
    decide +kernel
  obtain ⟨D, hK⟩ := q_dc_s m.cls hts2
  have hKX := q_kx_s hts hX hbl hgv
  have hr := q_ρ_rg xs
  have h6 := q_ρ_6 xs
  have h7 := q_ρ_7 xs
  have hxs := q_ρ_xs hL xs
  have hb9 : c.code = q_bc 276 := by rw [q_bc276]; exact hb
  have hCx : q_Cx 276 p l room_1 s m #[Value.ref b] meth c s.heap.size b L xs := ⟨hx, hb9, by rw [hml, q_mL276], by rw [q_on276]; exact hown, hts2, hlocks, fun h => absurd h (by rw [q_cn276]; decide), fun h => absurd h (by decide), hKX, hst, q_room, Or.inr q_hh276⟩
  have hok := q_okl_i ht
  have hcon := q_con_s (ρ := q_ρ xs) (bs := b) (base := s.heap.size) (L := L) (xs := xs) (D := D) (l := l) hr h6 h7 hxs hst 8
  have hmv : q_an (Nat.beq (q_mt 276).2.1.1 (q_mL 276)) _ = true := q_mv_law
  obtain ⟨a1, hmv⟩ := q_and_i hmv
  obtain ⟨a2, hmv⟩ := q_and_i hmv
  obtain ⟨a7, a8⟩ := q_and_i hmv
  have hEnd : q_Ends p l e room_1 s m #[Value.ref b] below meth c (lw_Z below #[Value.ref b] s) (q_ρ xs) b s.heap.size D [] 276 lfs := by
    refine ⟨?_, ?_, ?_⟩
    · intro lf pc ins st o ws' tys' H locs ls cl sl hlf hdec hsh ho' hK' hP' hD' hS' hW' hE' hc hs hout
      obtain ⟨k1, k2⟩ := hok lf hlf
      rcases hout with ⟨e0, -⟩ | ⟨-, V, e1, hv⟩
      · rw [k1] at e0; cases e0
      · rw [k2] at hv
        have hv : V = .int (Int32.ofInt 1) := hv
        subst hv
        subst e1
        have hfin : ins = .ireturn ∧ st = [.int 1] := by
          rcases hsh with ⟨r1, r2, r3, r4, r5⟩ | ⟨r1, r2, r3, r4, r5, r6⟩ | ⟨r1, r2, r3, r4, r5⟩ | ⟨r1, r2, r3, r4, r5⟩ | ⟨r1, r2, r3, r4, r5⟩ | ⟨r1, ⟨n, r2⟩, r3, r4, r5, r6⟩ | ⟨r1, r2, r3, r4⟩
          · rw [q_rt276] at r2; cases r2
          · cases q_so r6
            exact ⟨r1, r5⟩
          · rw [q_rt276] at r2; cases r2
          · rw [q_rt276] at r2; cases r2
          · rw [q_rt276] at r2; cases r2
          · rw [q_rt276] at r2; cases r2
          · rw [q_rt276] at r2; cases r2
        obtain ⟨rfl, rfl⟩ := hfin
        refine va_forget (fun q hq => hS'.2.2 q hq) (W.widen (k := 600002) (n := 7302232) hc hs ?_)
        refine W.base ?_
        exact lw_ret (Drawn.sameBut.refl s.drawn lw_cs) hx hb hret hlocks (by rw [← q_bc276]; exact hdec)
    · intro lf k pc ws' tys' H locs ls rest cl sl q9 ce hlf he
      rw [(hok lf hlf).1] at he
      cases he
    · intro lf k pc ik ws' tys' H locs ls st cl sl hlf he
      rw [(hok lf hlf).1] at he
      cases he
  have hargs : q_F2 (q_rv (q_ρ xs) b []) [((9, 0) : q_V)] [Value.ref b] := ⟨rfl, trivial⟩
  have hl := lv_entry [Value.ref b] (n := q_mL 276) (by rw [q_mL276]; exact Nat.le_of_ble_eq_true rfl)
  rw [show (10 : Nat) = q_mL 276 from q_mL276.symm, lg_entry_eq]
  generalize (lg_sl [Value.ref b] ++ List.replicate (q_mL 276 - (lg_sl [Value.ref b]).length) Slot.unset).toArray = ls at hl ⊢
  have hmain := hgo (fun c9 => q_G (q_w p l e room_1 s m #[Value.ref b] below meth c (lw_Z below #[Value.ref b] s)) q_cl (q_mL 276) (q_ρ xs) b s.heap.size D [] s c9)
    (fun c9 z hz hG hLF => q_step_s (by decide) hCx hr h6 h7 rfl hxs (q_bq a7) (q_hrel_i a8) hcon hEnd hz hG hLF) (fun c9 e9 h9 hG9 => q_Cle_s h9 hG9)
  exact hmain ho [] [] s.heap [] ls (lv_args 0 [Value.ref b]) [] hK (fun k q hk => (by cases hk)) ⟨fun i j p q h => (by cases h), fun k q h => (by cases h)⟩ va_S.rf ⟨rfl, Nat.zero_le _, fun k q hk => (by cases hk)⟩ (q_Ex.rf []) (q_args_s _ _ hargs 0) trivial hl
theorem q_law {p : Program} {e : Env} {s : State} {m : MethodId} {below : List Frame} {meth : Method} {c : Code} (l : Launch) (hflags : l.flags = flags0) {b L : Nat} {xs : Nat → Int32} (hL : L ≤ 6) (C0 : lw_At p s m meth c b L xs)
    {iv : q_I} (ho : q_ok (q_ρ xs) iv) (ht : q_tsI L iv = true) : W p l e room_1 s m #[Value.ref b] below meth c s.heap [] 0 0 (lw_Z below #[Value.ref b] s) (entryFrame m ([Value.ref b] : List Value).toArray 10) := by
  unfold q_tsI at ht
  cases hrun : q_rn q_mt q_df L 9 276 [(9, 0)] q_h0 iv with
  | none => rw [hrun] at ht; cases ht
  | some lfs =>
    rw [hrun] at ht
    exact q_law_of l hflags hL C0 ho ht (fun G h1 _ => (q_rn_s hrun).2 G h1)
theorem q_okr (xs : Nat → Int32) {u v : Int} (h1 : u ≤ q_ρ xs 6) (h2 : q_ρ xs 6 ≤ v) : q_ok (q_ρ xs) (q_ivr u v) := by
  have hr := q_ρ_rg xs
  intro i q hq
  rw [q_nth_g] at hq
  match i, hq with
  | 0, hq => cases q_so hq; have := hr 0; exact ⟨this.1, by have := this.2; omega⟩
  | 1, hq => cases q_so hq; have := hr 1; exact ⟨this.1, by have := this.2; omega⟩
  | 2, hq => cases q_so hq; have := hr 2; exact ⟨this.1, by have := this.2; omega⟩
  | 3, hq => cases q_so hq; have := hr 3; exact ⟨this.1, by have := this.2; omega⟩
  | 4, hq => cases q_so hq; have := hr 4; exact ⟨this.1, by have := this.2; omega⟩
  | 5, hq => cases q_so hq; have := hr 5; exact ⟨this.1, by have := this.2; omega⟩
  | 6, hq => cases q_so hq; exact ⟨h1, h2⟩
  | 7, hq => cases q_so hq; have := hr 7; exact ⟨this.1, by have := this.2; omega⟩
  | (n + 8), hq => cases (show (none : Option (Int × Int)) = some q from hq)
