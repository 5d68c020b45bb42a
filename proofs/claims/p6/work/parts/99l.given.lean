/-! Part 99l: the law's start: what the Statement gives of it. -/
def q_tx : List (Nat × String) := [(127, "what is out of range"), (176, "steps is out of range"), (205, "the queue is empty"), (211, "moves is out of range"), (213, "the queue holds fewer moves"), (226, "how is out of range"), (231, "start is out of range"), (233, "move is out of range"), (253, "the move has no such step"), (292, "there is no such place"), (322, "time is negative"), (406, "no state is saved"), (411, "there is no such axis"), (414, "there is no such move"), (419, "the axis is not homed"), (421, "an axis is not homed"), (423, "there is an alarm"), (425, "the queue is not empty"), (431, "a coordinate is out of range"), (433, "the queue is full"), (435, "a move would lead nowhere")]
theorem q_tx_l : (q_SL.all fun q => q_tx.any fun t => Nat.beq q.2 t.1 && Nat.beq q.1 8) = true := by decide +kernel
theorem q_tx_w : ∀ t ∈ q_tx, Cond.stringRef (q_on 8) t.1 t.2 ∈ lw_tbl := by decide +kernel
theorem q_tx_e : ∀ t ∈ q_tx, Cond.exactly (.string (q_on 8) t.1) "java/lang/String" ∈ flatC (Jvm.Cond.and given_1 narrow_1) := by decide +kernel
theorem q_BL_in : ∀ w ∈ q_BL, w ∈ lw_tbl := by decide +kernel
theorem q_nc_in : ∀ a, a < 4 → ∀ b, b < 4 → a ≠ b → Cond.not (.castable (q_ex a) (q_ex b)) ∈ flatC (Jvm.Cond.and given_1 narrow_1) := by decide +kernel
/-- the class's and the reference's words for the seven texts -/
def y_sk (i : Nat) : Nat := [121, 123, 125, 127, 129, 130, 132].getD i 0
def y_sm (i : Nat) : Nat := [234, 243, 245, 247, 252, 254, 256].getD i 0
def y_tm (i : Nat) : Term := .string q_su (y_sk i)
def y_tv (i : Nat) : Term := .field (y_tm i) "java/lang/String" "value" "[B"
theorem y_s1 : ∀ i, i < 7 → Cond.exactly (y_tm i) "java/lang/String" ∈ flatC (Jvm.Cond.and given_1 narrow_1) := by decide +kernel
theorem y_s2 : ∀ i, i < 7 → Cond.eq (.field (y_tm i) "java/lang/String" "coder" "B") (.int 0) ∈ flatC (Jvm.Cond.and given_1 narrow_1) := by decide +kernel
theorem y_s3 : ∀ i, i < 7 → Cond.arrayOf (y_tv i) .byte ∈ flatC (Jvm.Cond.and given_1 narrow_1) := by decide +kernel
theorem y_s4 : ∀ i, i < 7 → Cond.eq (.length (y_tv i)) (.int (Int32.ofNat (q_sL.getD i 0))) ∈ flatC (Jvm.Cond.and given_1 narrow_1) := by decide +kernel
theorem y_s5 : ∀ i, i < 7 → ∀ j, j < q_sL.getD i 0 → Cond.eq (.elem (y_tv i) (.int (Int32.ofNat j))) (.int ((q_sB.getD i []).getD j 0)) ∈ flatC (Jvm.Cond.and given_1 narrow_1) := by decide +kernel
theorem y_s6 : ∀ i, i < 7 → Cond.eq (y_tm i) (.string (q_on 9) (y_sm i)) ∈ flatC (Jvm.Cond.and given_1 narrow_1) := by decide +kernel
theorem y_s7 : ∀ i, i < 7 → Cond.stringRef q_su (y_sk i) (q_st9 i) ∈ lw_tbl := by decide +kernel
theorem y_s8 : ∀ i, i < 7 → Cond.stringRef (q_on 9) (y_sm i) (q_st9 i) ∈ lw_tbl := by decide +kernel
theorem y_sd : ∀ i, i < 7 → ∀ j, j < 7 → (q_sB.getD i []).getD 0 0 = (q_sB.getD j []).getD 0 0 → i = j := by decide +kernel
theorem y_sl : ∀ i, i < 7 → 0 < q_sL.getD i 0 ∧ q_sL.getD i 0 < 2 ^ 31 := by decide +kernel
theorem y_WL : ∀ q ∈ q_WL, (q.1 = 5 ∧ q.2.2 < 7 ∧ q.2.1 = y_sk q.2.2) ∨ (q.1 = 9 ∧ q.2.2 < 7 ∧ q.2.1 = y_sm q.2.2) := by decide +kernel
/-- the seven texts -/
theorem y_vkS {args : Array Value} {s : State} {A : Nat → Prop} (hf : ∀ w ∈ flatC (Jvm.Cond.and given_1 narrow_1), w.before args s = true) (hA : ∀ a : Nat, a < s.heap.size → ¬ A a) : ∃ adK adV : Nat → Nat, vk_S 7 q_sL q_sB adK adV A s s.heap ∧ ∀ i : Nat, i < 7 → (y_tm i).eval args s none [] s = some (.ref (adK i)) := by
  have h0 : ∀ i : Nat, ∃ q : Nat × Nat, i < 7 → (y_tm i).eval args s none [] s = some (.ref q.1) ∧ va_O "java/lang/String" q.1 A s s.heap ∧ va_OF "java/lang/String" "coder" "B" (.int 0) q.1 A s s.heap ∧ va_OF "java/lang/String" "value" "[B" (.ref q.2) q.1 A s s.heap ∧ va_T .byte q.2 (q_sL.getD i 0) (fun j => .int ((q_sB.getD i []).getD j 0)) A s s.heap := by
    intro i
    by_cases hi : i < 7
    · obtain ⟨a, c, cA, kA, q1, q2, q3, q4, q5, q6, -⟩ := Cond.exactly_spec (args := args) (first := s) (o := none) (s := s) (idx := []) (t := y_tm i) (cls := "java/lang/String") (hf _ (y_s1 i hi))
      obtain ⟨t, ht, hT⟩ := va_Tof (f := fun j => .int ((q_sB.getD i []).getD j 0)) (A := A) (y_sl i hi).2 (hf _ (y_s3 i hi)) (va_eqt (hf _ (y_s4 i hi))) (fun j hj => va_eqt (hf _ (y_s5 i hi j hj))) hA
      exact ⟨(a, t), fun _ => ⟨q1, ⟨cA, q3, q5, by rw [q6]; exact q2, hA a (Array.getElem?_eq_some_iff.mp q3).1⟩, vk_OFof q1 (va_eqt (hf _ (y_s2 i hi))) hA, vk_OFof q1 ht hA, hT⟩⟩
    · exact ⟨(0, 0), fun h => absurd h hi⟩
  obtain ⟨ad, had⟩ := Classical.axiomOfChoice h0
  refine ⟨fun i => (ad i).1, fun i => (ad i).2, ⟨fun i hi => (had i hi).2, fun i j hi hj e => ?_⟩, fun i hi => (had i hi).1⟩
  have e : (ad i).1 = (ad j).1 := e
  obtain ⟨-, -, -, ⟨c1, k1, i1, f1, cell1, a1, a2, a3, a4, a5, -⟩, ⟨d1, b1, -, -, -, -, b6, -⟩⟩ := had i hi
  obtain ⟨-, -, -, ⟨c2, k2, i2, f2, cell2, a1', a2', a3', a4', a5', -⟩, ⟨d2, b1', -, -, -, -, b6', -⟩⟩ := had j hj
  rw [← e] at a3'
  cases a3.symm.trans a3'
  cases a1.symm.trans a1'
  have e2 : (ad i).2 = (ad j).2 := by
    have := a5.symm.trans a5'
    exact Value.ref.inj (Option.some.inj this)
  rw [← e2] at b1'
  cases b1.symm.trans b1'
  have g1 := b6 0 (y_sl i hi).1
  have g2 := b6' 0 (y_sl j hj).1
  exact y_sd i hi j hj (Value.int.inj (Option.some.inj (g1.symm.trans g2)))
/-- a static array of ints, its length exact -/
theorem y_X {args : Array Value} {s : State} {tm : Term} {N : Nat} {f : Nat → Int32} (hN : N < 2 ^ 31) (harr : (Cond.arrayOf tm .int).before args s = true) (hlen : (Cond.eq (.length tm) (.int (Int32.ofNat N))).before args s = true) (hel : ∀ j : Nat, j < N → (Cond.eq (.elem tm (.int (Int32.ofNat j))) (.int (f j))).before args s = true) : ∃ t : Nat, tm.eval args s none [] s = some (.ref t) ∧ va_X t N f s s.heap ∧ t < s.heap.size := by
  have hv := va_eqt hlen
  obtain ⟨t0, ht0, hT⟩ := va_Tof (f := fun j => .int (f j)) (A := fun a => s.heap.size ≤ a) hN harr hv (fun j hj => va_eqt (hel j hj)) (fun a h h2 => absurd h (Nat.not_lt.mpr h2))
  obtain ⟨t, cell, ht, hat, -⟩ := Term.length_spec hv
  cases ht0.symm.trans ht
  obtain ⟨cell2, c1, c2, c3, c4, c5, c6, -⟩ := hT
  obtain ⟨hcell, -, -, -⟩ := State.arrayAt?_spec hat
  cases c1.symm.trans hcell
  have hsz : cell.slots.size < 2 ^ 31 := by
    simp only [Term.eval, ht, hat, Option.bind_eq_bind, Option.bind_some] at hv
    by_cases hlt : cell.slots.size < 2147483648
    · exact hlt
    · simp [hlt] at hv
  have e : cell.slots.size = N := by
    have h1 : (Int32.ofNat cell.slots.size).toInt = (Int32.ofNat N).toInt := congrArg Int32.toInt c5
    rw [Int32.toInt_ofNat_small hsz, Int32.toInt_ofNat_small hN] at h1
    omega
  exact ⟨t0, ht0, ⟨cell, c1, c2, c3, e, c6⟩, (Array.getElem?_eq_some_iff.mp c1).1⟩
def y_st (n : Nat) : Term := .static q_su (q_sf n) "[I"
theorem y_a1 : ∀ n, n < 3 → 1 ≤ n → Cond.arrayOf (y_st n) .int ∈ flatC (Jvm.Cond.and given_1 narrow_1) := by decide +kernel
theorem y_a2 : ∀ n, n < 3 → 1 ≤ n → Cond.eq (.length (y_st n)) (.int (Int32.ofNat 6)) ∈ flatC (Jvm.Cond.and given_1 narrow_1) := by decide +kernel
theorem y_a3 : ∀ n, n < 3 → 1 ≤ n → ∀ j, j < 6 → Cond.eq (.elem (y_st n) (.int (Int32.ofNat j))) (.int (Int32.ofInt (q_lg n j))) ∈ flatC (Jvm.Cond.and given_1 narrow_1) := by decide +kernel
theorem y_a4 : ∀ n, n < 3 → 1 ≤ n → Cond.laysStatic q_su (q_sf n) "[I" ∈ lw_tbl := by decide +kernel
theorem y_a5 : Cond.initialized q_su ∈ lw_tbl := by decide +kernel
theorem y_kx_s {s : State} {b L : Nat} {xs : Nat → Int32} (hts : ∀ w ∈ lw_tbl, w.before #[Value.ref b] s = true) (hX : va_X b L xs s s.heap) (hbl : b < s.heap.size) (hgv : (Jvm.Cond.and given_1 narrow_1).before #[Value.ref b] s = true) : ∃ bs : Nat → Nat, bs 0 = b ∧ q_KX s.heap.size bs L xs s := by
  have hf := flat_of_before _ hgv
  have hini : (Cond.initialized Bundle.tN).before #[Value.ref b] s = true := hts _ (by decide +kernel)
  have hA : ∀ a : Nat, a < s.heap.size → ¬ q_A s.heap.size a := fun a h h2 => absurd h (Nat.not_lt.mpr h2)
  obtain ⟨adK, adV, hS, hSe⟩ := y_vkS hf hA
  obtain ⟨t1, ht1, hX1, hl1⟩ := y_X (f := fun j => Int32.ofInt (q_lg 1 j)) (by decide) (hf _ (y_a1 1 (by omega) (by omega))) (hf _ (y_a2 1 (by omega) (by omega))) (fun j hj => hf _ (y_a3 1 (by omega) (by omega) j hj))
  obtain ⟨t2, ht2, hX2, hl2⟩ := y_X (f := fun j => Int32.ofInt (q_lg 2 j)) (by decide) (hf _ (y_a1 2 (by omega) (by omega))) (hf _ (y_a2 2 (by omega) (by omega))) (fun j hj => hf _ (y_a3 2 (by omega) (by omega) j hj))
  obtain ⟨vf, hvc, hvf⟩ : ∃ v9 : Value, v9.category = 1 ∧ va_Z "jdk/internal/util/Preconditions" "SIOOBE_FORMATTER" "Ljava/util/function/BiFunction;" v9 (q_A s.heap.size) s s.heap := by
    rcases va_Zqof (C := "jdk/internal/util/Preconditions") (n := "SIOOBE_FORMATTER") (d := "Ljava/util/function/BiFunction;") (hts _ (by decide +kernel)) (hts _ (by decide +kernel)) (hf _ (by decide +kernel)) hA with h | ⟨t, h⟩
    · exact ⟨_, rfl, h⟩
    · exact ⟨_, rfl, h⟩
  refine ⟨fun n => if n = 0 then b else if n = 1 then t1 else if n = 2 then t2 else adK (n - 3), rfl, fun w hw => va_Nw.of (q_bk_t (List.all_eq_true.mp q_BL_k w hw)) (hts w (q_BL_in w hw)), fun q hq => ?_, fun a c ha hc hac => va_Nc.of (hf _ (q_nc_in a ha c hc hac)), va_AO.of (hts _ (by decide +kernel)),
    vx_Zqof (hts _ (by decide +kernel)) hini (hf _ (by decide +kernel)) hA, vx_Zqof (hts _ (by decide +kernel)) hini (hf _ (by decide +kernel)) hA, fun n hn => ?_, fun n hn h1n => ?_, ⟨adV, ?_⟩, fun q hq => ?_, va_Zof (hts _ (by decide +kernel)) (hts _ (by decide +kernel)) (va_eqi (hf _ (by decide +kernel))) hA, ⟨vf, hvc, hvf⟩, va_Zof (hts _ (by decide +kernel)) (hts _ (by decide +kernel)) (va_eql (hf _ (by decide +kernel))) hA, fun n hn => ?_, Nat.le_refl _⟩
  · obtain ⟨t, ht, h⟩ := List.any_eq_true.mp (List.all_eq_true.mp q_tx_l q hq)
    obtain ⟨h1, h2⟩ := (Bool.and_eq_true _ _).mp h
    obtain ⟨cn, is⟩ := q
    have e1 : is = t.1 := q_bq h1
    have e2 : cn = 8 := q_bq h2
    subst e1; subst e2
    obtain ⟨a, c, ce, k, g1, -⟩ := Cond.exactly_spec (hf _ (q_tx_e t ht))
    exact ⟨t.2, a, vk_R.of (hts _ (q_tx_w t ht)) g1⟩
  · match n, hn with
    | 0, _ => exact hX
    | 1, _ => exact hX1
    | 2, _ => exact hX2
  · match n, hn, h1n with
    | 1, _, _ => exact va_Zref (hts _ (y_a4 1 (by omega) (by omega))) (hts _ y_a5) ht1 hA
    | 2, _, _ => exact va_Zref (hts _ (y_a4 2 (by omega) (by omega))) (hts _ y_a5) ht2 hA
  · have e : (fun i => (fun n => if n = 0 then b else if n = 1 then t1 else if n = 2 then t2 else adK (n - 3)) (3 + i)) = adK := by
      funext i
      show (if 3 + i = 0 then b else if 3 + i = 1 then t1 else if 3 + i = 2 then t2 else adK (3 + i - 3)) = adK i
      rw [if_neg (by omega), if_neg (by omega), if_neg (by omega)]
      congr 1; omega
    rw [e]; exact hS
  · show vk_R (q_on q.1) q.2.1 (q_st9 q.2.2) (if 3 + q.2.2 = 0 then b else if 3 + q.2.2 = 1 then t1 else if 3 + q.2.2 = 2 then t2 else adK (3 + q.2.2 - 3)) s
    rw [if_neg (by omega), if_neg (by omega), if_neg (by omega), show 3 + q.2.2 - 3 = q.2.2 by omega]
    obtain ⟨q1, q2, q3⟩ := q
    rcases y_WL _ hq with ⟨e1, e2, e3⟩ | ⟨e1, e2, e3⟩
    · have f1 : q1 = 5 := e1
      have f2 : q3 < 7 := e2
      have f3 : q2 = y_sk q3 := e3
      clear e1 e2 e3 hq
      subst f1; subst f3
      exact vk_R.of (hts _ (y_s7 q3 f2)) (hSe q3 f2)
    · have f1 : q1 = 9 := e1
      have f2 : q3 < 7 := e2
      have f3 : q2 = y_sm q3 := e3
      clear e1 e2 e3 hq
      subst f1; subst f3
      exact vk_R.of (hts _ (y_s8 q3 f2)) (va_eqR (hf _ (y_s6 q3 f2)) (hSe q3 f2))
  · match n, hn with
    | 0, _ => exact hbl
    | 1, _ => exact hl1
    | 2, _ => exact hl2
