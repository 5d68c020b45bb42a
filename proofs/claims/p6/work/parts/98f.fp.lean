/-! Part 98f: the machine's quotients and sums are no NaN. -/
theorem g_rs (f : FP.Core.Fmt) (s : Bool) (n d : Nat) (e : Int) : FP.Core.roundRatio f s n d e = .inf s ∨ ∃ c q, FP.Core.roundRatio f s n d e = .fin s c q := by
  unfold FP.Core.roundRatio FP.Core.roundAt FP.Core.settle FP.Core.bound
  (repeat' split) <;> first | exact Or.inl rfl | exact Or.inr ⟨_, _, rfl⟩
theorem g_pos64 {d : FP.Core.Datum} (h : g_ok FP.Core.b64 d) (hs : d = .inf false ∨ ∃ c q, d = .fin false c q) : FP.Core.encode FP.Core.b64 d ≤ 9218868437227405312 := by
  obtain ⟨eT, eX, eP, e1, e2, ep⟩ := g_T64
  rcases hs with rfl | ⟨c, q, rfl⟩
  · unfold FP.Core.encode FP.Core.assemble; rw [eT, eX]; simp
  · obtain ⟨k1, k2⟩ := h.2 false c q rfl
    rw [eP] at k1
    rw [eT, e1, e2] at k2
    have ee : FP.Core.encode FP.Core.b64 (.fin false c q) = if c < FP.Core.Fmt.tails FP.Core.b64 then FP.Core.assemble FP.Core.b64 false 0 c else FP.Core.assemble FP.Core.b64 false ((q - FP.Core.Fmt.qmin FP.Core.b64).toNat + 1) (c - FP.Core.Fmt.tails FP.Core.b64) := rfl
    rw [ee, eT, e1]
    split <;> unfold FP.Core.assemble <;> rw [eT, eX] <;> simp <;> omega
theorem g_ht64 : FP.Core.Fmt.tails FP.Core.b64 < 2 ^ FP.Core.b64.p ∧ 0 < FP.Core.Fmt.tails FP.Core.b64 := by decide +kernel
theorem g_ht32 : FP.Core.Fmt.tails FP.Core.b32 < 2 ^ FP.Core.b32.p ∧ 0 < FP.Core.Fmt.tails FP.Core.b32 := by decide +kernel
theorem g_ok_z {f : FP.Core.Fmt} (h0 : 0 < f.tails) (s : Bool) (q : Int) : g_ok f (.fin s 0 q) := ⟨by simp, fun s' c' q' e => by injection e with e1 e2 e3; subst e2; exact ⟨Nat.pos_of_ne_zero (by simp), Or.inl h0⟩⟩
theorem g_ok_i {f : FP.Core.Fmt} (s : Bool) : g_ok f (.inf s) := ⟨by simp, fun s' c' q' e => by cases e⟩
/-- a quotient by what is not zero is no NaN -/
theorem g_quo {f : FP.Core.Fmt} (ht : f.tails < 2 ^ f.p) (h0 : 0 < f.tails) {s : Bool} {c : Nat} {q : Int} {y : FP.Core.Datum} (hy : y ≠ .nan) (hz : c ≠ 0 ∨ ∀ t d r, y = .fin t d r → d ≠ 0) : g_ok f (FP.Core.quotient f (.fin s c q) y) ∧ (s = false → (y = .inf false ∨ ∃ d r, y = .fin false d r) → FP.Core.quotient f (.fin s c q) y = .inf false ∨ ∃ c' q', FP.Core.quotient f (.fin s c q) y = .fin false c' q') := by
  cases y with
  | nan => exact absurd rfl hy
  | inf t =>
    refine ⟨g_ok_z h0 _ _, fun h1 h2 => ?_⟩
    rcases h2 with h2 | ⟨d, r, h2⟩
    · injection h2 with h2; subst h1; subst h2; exact Or.inr ⟨_, _, rfl⟩
    · cases h2
  | fin t d r =>
    have eq : FP.Core.quotient f (.fin s c q) (.fin t d r) = if d = 0 then (if c = 0 then .nan else .inf (s != t)) else FP.Core.roundRatio f (s != t) c d (q - r) := rfl
    rw [eq]
    by_cases d0 : d = 0
    · have c0 : c ≠ 0 := hz.resolve_right (fun h9 => h9 t d r rfl d0)
      rw [if_pos d0, if_neg c0]
      refine ⟨g_ok_i _, fun h1 h2 => ?_⟩
      rcases h2 with h2 | ⟨d, r, h2⟩
      · cases h2
      · injection h2 with h2; subst h1; subst h2; exact Or.inl rfl
    · rw [if_neg d0]
      refine ⟨g_rr ht h0 _ _ _ _, fun h1 h2 => ?_⟩
      rcases h2 with h2 | ⟨d', r', h2⟩
      · cases h2
      · injection h2 with h2; subst h1; subst h2; exact g_rs f _ _ _ _
theorem g_div64 {x y : Nat} (hx : x < 18446744073709551616) (hy : y < 18446744073709551616) (ok : g_ok FP.Core.b64 (FP.Core.quotient FP.Core.b64 (FP.Core.decode FP.Core.b64 x) (FP.Core.decode FP.Core.b64 y))) : q_n64 (FP.ddiv (UInt64.ofNat x) (UInt64.ofNat y)) = true ∧ (FP.ddiv (UInt64.ofNat x) (UInt64.ofNat y)).toNat = FP.Core.encode FP.Core.b64 (FP.Core.quotient FP.Core.b64 (FP.Core.decode FP.Core.b64 x) (FP.Core.decode FP.Core.b64 y)) := by
  have e : FP.ddiv (UInt64.ofNat x) (UInt64.ofNat y) = UInt64.ofNat (FP.Core.encode FP.Core.b64 (FP.Core.quotient FP.Core.b64 (FP.Core.decode FP.Core.b64 x) (FP.Core.decode FP.Core.b64 y))) := by
    show UInt64.ofNat (FP.Core.div FP.Core.b64 (UInt64.ofNat x).toNat (UInt64.ofNat y).toNat) = _
    rw [UInt64.toNat_ofNat_of_lt' hx, UInt64.toNat_ofNat_of_lt' hy]; rfl
  have g := g_enc64 ok
  rw [e]
  exact ⟨g_n64 g.1 g.2, UInt64.toNat_ofNat_of_lt' g.2⟩
theorem g_div32 {x y : Nat} (hx : x < 4294967296) (hy : y < 4294967296) (ok : g_ok FP.Core.b32 (FP.Core.quotient FP.Core.b32 (FP.Core.decode FP.Core.b32 x) (FP.Core.decode FP.Core.b32 y))) : q_n32 (FP.fdiv (UInt32.ofNat x) (UInt32.ofNat y)) = true ∧ (FP.fdiv (UInt32.ofNat x) (UInt32.ofNat y)).toNat = FP.Core.encode FP.Core.b32 (FP.Core.quotient FP.Core.b32 (FP.Core.decode FP.Core.b32 x) (FP.Core.decode FP.Core.b32 y)) := by
  have e : FP.fdiv (UInt32.ofNat x) (UInt32.ofNat y) = UInt32.ofNat (FP.Core.encode FP.Core.b32 (FP.Core.quotient FP.Core.b32 (FP.Core.decode FP.Core.b32 x) (FP.Core.decode FP.Core.b32 y))) := by
    show UInt32.ofNat (FP.Core.div FP.Core.b32 (UInt32.ofNat x).toNat (UInt32.ofNat y).toNat) = _
    rw [UInt32.toNat_ofNat_of_lt' hx, UInt32.toNat_ofNat_of_lt' hy]; rfl
  have g := g_enc32 ok
  rw [e]
  exact ⟨g_n32 g.1 g.2, UInt32.toNat_ofNat_of_lt' g.2⟩
-- whole numbers of the machine
theorem g_l2d {i : Int} (h : q_r64 i) : (q_l2d i).toNat = FP.Core.fromInt FP.Core.b64 i ∧ i.natAbs < 2 ^ 64 := by
  have hn : i.natAbs < 2 ^ 64 := by have := h; unfold q_r64 at this; omega
  have g := g_i64 hn
  refine ⟨?_, hn⟩
  show (Int.ofNat (UInt64.ofNat (FP.Core.fromInt FP.Core.b64 (Int64.ofInt i).toInt)).toNat).toNat = _
  rw [q_w64_m, q_w64_r h, UInt64.toNat_ofNat_of_lt' g.1]; rfl
theorem g_i2d {i : Int} (h : q_r32 i) : (q_i2d i).toNat = FP.Core.fromInt FP.Core.b64 i ∧ i.natAbs < 2 ^ 64 := by
  have hn : i.natAbs < 2 ^ 64 := by have := h; unfold q_r32 at this; omega
  have g := g_i64 hn
  refine ⟨?_, hn⟩
  show (Int.ofNat (UInt64.ofNat (FP.Core.fromInt FP.Core.b64 (Int32.ofInt i).toInt)).toNat).toNat = _
  rw [q_w32_m, q_w32_r h, UInt64.toNat_ofNat_of_lt' g.1]; rfl
theorem g_i2f {i : Int} (h : q_r32 i) : (q_i2f i).toNat = FP.Core.fromInt FP.Core.b32 i ∧ i.natAbs < 2 ^ 32 := by
  have hn : i.natAbs < 2 ^ 32 := by have := h; unfold q_r32 at this; omega
  have g := g_i32 hn
  refine ⟨?_, hn⟩
  show (Int.ofNat (UInt32.ofNat (FP.Core.fromInt FP.Core.b32 (Int32.ofInt i).toInt)).toNat).toNat = _
  rw [q_w32_m, q_w32_r h, UInt32.toNat_ofNat_of_lt' g.1]; rfl
/-- longs divided as doubles -/
theorem g_ll {i j : Int} (hi : q_r64 i) (hj : q_r64 j) (j0 : j ≠ 0) : q_n64 (FP.ddiv (UInt64.ofNat (q_l2d i).toNat) (UInt64.ofNat (q_l2d j).toNat)) = true := by
  obtain ⟨a1, a2⟩ := g_l2d hi
  obtain ⟨b1, b2⟩ := g_l2d hj
  have ga := g_i64 a2
  have gb := g_i64 b2
  obtain ⟨s, c, q, e, -⟩ := (g_dec64 ga.1).2.1 ga.2.1
  obtain ⟨t, d, r, e2, z⟩ := (g_dec64 gb.1).2.1 gb.2.1
  rw [a1, b1]
  refine (g_div64 ga.1 gb.1 ?_).1
  rw [e, e2]
  exact (g_quo g_ht64.1 g_ht64.2 (by simp) (Or.inr fun t' d' r' h => by injection h with h1 h2 h3; subst h2; exact z (gb.2.2.1 j0))).1
/-- ints divided as floats: no NaN, and what is taken from a whole number then -/
theorem g_ff {i j : Int} (hi : q_r32 i) (hj : q_r32 j) (j0 : j ≠ 0) : q_n32 (FP.fdiv (UInt32.ofNat (q_i2f i).toNat) (UInt32.ofNat (q_i2f j).toNat)) = true ∧ ∀ k, q_r32 k → q_n32 (FP.fsub (UInt32.ofNat (q_i2f k).toNat) (UInt32.ofNat (q_fdiv (q_i2f i) (q_i2f j)).toNat)) = true := by
  obtain ⟨a1, a2⟩ := g_i2f hi
  obtain ⟨b1, b2⟩ := g_i2f hj
  have ga := g_i32 a2
  have gb := g_i32 b2
  obtain ⟨s, c, q, e, -⟩ := (g_dec32 ga.1).2 ga.2.1
  obtain ⟨t, d, r, e2, z⟩ := (g_dec32 gb.1).2 gb.2.1
  have ok : g_ok FP.Core.b32 (FP.Core.quotient FP.Core.b32 (FP.Core.decode FP.Core.b32 (FP.Core.fromInt FP.Core.b32 i)) (FP.Core.decode FP.Core.b32 (FP.Core.fromInt FP.Core.b32 j))) := by
    rw [e, e2]
    exact (g_quo g_ht32.1 g_ht32.2 (by simp) (Or.inr fun t' d' r' h => by injection h with h1 h2 h3; subst h2; exact z (gb.2.2 j0))).1
  have D := g_div32 ga.1 gb.1 ok
  rw [a1, b1]
  refine ⟨D.1, fun k hk => ?_⟩
  obtain ⟨k1, k2⟩ := g_i2f hk
  have gk := g_i32 k2
  obtain ⟨s3, c3, q3, e3, -⟩ := (g_dec32 gk.1).2 gk.2.1
  have E := g_enc32 ok
  have fd : (q_fdiv (q_i2f i) (q_i2f j)).toNat = FP.Core.encode FP.Core.b32 (FP.Core.quotient FP.Core.b32 (FP.Core.decode FP.Core.b32 (FP.Core.fromInt FP.Core.b32 i)) (FP.Core.decode FP.Core.b32 (FP.Core.fromInt FP.Core.b32 j))) := by
    show (Int.ofNat (FP.fdiv (UInt32.ofNat (q_i2f i).toNat) (UInt32.ofNat (q_i2f j).toNat)).toNat).toNat = _
    rw [a1, b1]; exact D.2
  rw [k1, fd]
  have nn := (g_dec32 E.2).1 E.1
  generalize FP.Core.encode FP.Core.b32 (FP.Core.quotient FP.Core.b32 (FP.Core.decode FP.Core.b32 (FP.Core.fromInt FP.Core.b32 i)) (FP.Core.decode FP.Core.b32 (FP.Core.fromInt FP.Core.b32 j))) = y at E nn
  have es : FP.fsub (UInt32.ofNat (FP.Core.fromInt FP.Core.b32 k)) (UInt32.ofNat y) = UInt32.ofNat (FP.Core.encode FP.Core.b32 (FP.Core.round FP.Core.b32 (FP.Core.exactSum (FP.Core.decode FP.Core.b32 (FP.Core.fromInt FP.Core.b32 k)) (FP.Core.negate (FP.Core.decode FP.Core.b32 y))))) := by
    show UInt32.ofNat (FP.Core.sub FP.Core.b32 (UInt32.ofNat (FP.Core.fromInt FP.Core.b32 k)).toNat (UInt32.ofNat y).toNat) = _
    rw [UInt32.toNat_ofNat_of_lt' gk.1, UInt32.toNat_ofNat_of_lt' E.2]; rfl
  rw [es, e3]
  have okS : g_ok FP.Core.b32 (FP.Core.round FP.Core.b32 (FP.Core.exactSum (.fin s3 c3 q3) (FP.Core.negate (FP.Core.decode FP.Core.b32 y)))) := by
    generalize FP.Core.decode FP.Core.b32 y = dy at nn
    cases dy with
    | nan => exact absurd rfl nn
    | inf t => exact g_ok_i _
    | fin t d r => exact g_rr g_ht32.1 g_ht32.2 _ _ _ _
  have g := g_enc32 okS
  exact g_n32 g.1 g.2
-- doubles that are not negative
theorem g_dq {x y : Int} (hx : 0 ≤ x ∧ x < 9218868437227405312) (hy : 0 ≤ y ∧ y ≤ 9218868437227405312) (hz : x ≠ 0 ∨ (y ≠ 0 ∧ y < 9218868437227405312)) : q_n64 (FP.ddiv (UInt64.ofNat x.toNat) (UInt64.ofNat y.toNat)) = true ∧ 0 ≤ q_ddiv x y ∧ q_ddiv x y ≤ 9218868437227405312 := by
  have X := g_dec64 (n := x.toNat) (by omega)
  have Y := g_dec64 (n := y.toNat) (by omega)
  obtain ⟨s, c, q, e, zc⟩ := X.2.1 (by omega)
  have sx : s = false := by
    rcases X.2.2 (by omega) with h | ⟨c', q', h⟩
    · rw [e] at h; cases h
    · rw [e] at h; injection h
  have yn := Y.1 (by omega)
  have ys := Y.2.2 (by omega)
  have Q := g_quo (f := FP.Core.b64) (s := s) (c := c) (q := q) (y := FP.Core.decode FP.Core.b64 y.toNat) g_ht64.1 g_ht64.2 yn (by
    rcases hz with h | ⟨h, h2⟩
    · exact Or.inl (zc (by omega))
    · refine Or.inr fun t d r h9 => ?_
      obtain ⟨t', d', r', e', z'⟩ := Y.2.1 (by omega)
      rw [e'] at h9
      injection h9 with h1 h3 h4
      subst h3; exact z' (by omega))
  have ok : g_ok FP.Core.b64 (FP.Core.quotient FP.Core.b64 (FP.Core.decode FP.Core.b64 x.toNat) (FP.Core.decode FP.Core.b64 y.toNat)) := by rw [e]; exact Q.1
  have D := g_div64 (x := x.toNat) (y := y.toNat) (by omega) (by omega) ok
  refine ⟨D.1, ?_⟩
  have ev : q_ddiv x y = Int.ofNat (FP.Core.encode FP.Core.b64 (FP.Core.quotient FP.Core.b64 (FP.Core.decode FP.Core.b64 x.toNat) (FP.Core.decode FP.Core.b64 y.toNat))) := by
    unfold q_ddiv; rw [D.2]
  have P := g_pos64 ok (by rw [e]; exact Q.2 sx ys)
  rw [ev]
  exact ⟨Int.natCast_nonneg _, Int.ofNat_le.mpr P⟩
