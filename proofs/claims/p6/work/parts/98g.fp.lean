/-! Part 98g: sums of doubles; roots. -/
theorem g_da {x y : Int} (hx : 0 ≤ x ∧ x ≤ 9218868437227405312) (hy : 0 ≤ y ∧ y ≤ 9218868437227405312) : q_n64 (FP.dadd (UInt64.ofNat x.toNat) (UInt64.ofNat y.toNat)) = true ∧ 0 ≤ q_dadd x y ∧ q_dadd x y ≤ 9218868437227405312 := by
  have X := (g_dec64 (n := x.toNat) (by omega)).2.2 (by omega)
  have Y := (g_dec64 (n := y.toNat) (by omega)).2.2 (by omega)
  have es : FP.dadd (UInt64.ofNat x.toNat) (UInt64.ofNat y.toNat) = UInt64.ofNat (FP.Core.encode FP.Core.b64 (FP.Core.round FP.Core.b64 (FP.Core.exactSum (FP.Core.decode FP.Core.b64 x.toNat) (FP.Core.decode FP.Core.b64 y.toNat)))) := by
    show UInt64.ofNat (FP.Core.add FP.Core.b64 (UInt64.ofNat x.toNat).toNat (UInt64.ofNat y.toNat).toNat) = _
    rw [UInt64.toNat_ofNat_of_lt' (show x.toNat < 18446744073709551616 by omega), UInt64.toNat_ofNat_of_lt' (show y.toNat < 18446744073709551616 by omega)]; rfl
  have ok : g_ok FP.Core.b64 (FP.Core.round FP.Core.b64 (FP.Core.exactSum (FP.Core.decode FP.Core.b64 x.toNat) (FP.Core.decode FP.Core.b64 y.toNat))) ∧ (FP.Core.round FP.Core.b64 (FP.Core.exactSum (FP.Core.decode FP.Core.b64 x.toNat) (FP.Core.decode FP.Core.b64 y.toNat)) = .inf false ∨ ∃ c q, FP.Core.round FP.Core.b64 (FP.Core.exactSum (FP.Core.decode FP.Core.b64 x.toNat) (FP.Core.decode FP.Core.b64 y.toNat)) = .fin false c q) := by
    rcases X with X | ⟨c, q, X⟩ <;> rcases Y with Y | ⟨d, r, Y⟩ <;> rw [X, Y]
    · exact ⟨g_ok_i _, Or.inl rfl⟩
    · exact ⟨g_ok_i _, Or.inl rfl⟩
    · exact ⟨g_ok_i _, Or.inl rfl⟩
    · have sg : FP.Core.sumSign false false (FP.Core.sumUnits false c q false d r (min q r)) = false := by
        have s0 : ∀ n : Nat, FP.Core.signed false n = (n : Int) := fun _ => rfl
        unfold FP.Core.sumSign FP.Core.sumUnits
        rw [s0, s0]
        by_cases z : ((FP.Core.inUnits c q (min q r) : Nat) : Int) + ((FP.Core.inUnits d r (min q r) : Nat) : Int) = 0
        · rw [if_pos z]; rfl
        · rw [if_neg z, decide_eq_false_iff_not]; omega
      have er : FP.Core.round FP.Core.b64 (FP.Core.exactSum (.fin false c q) (.fin false d r)) = FP.Core.roundRatio FP.Core.b64 (FP.Core.sumSign false false (FP.Core.sumUnits false c q false d r (min q r))) (FP.Core.sumUnits false c q false d r (min q r)).natAbs 1 (min q r) := rfl
      rw [er, sg]
      exact ⟨g_rr g_ht64.1 g_ht64.2 _ _ _ _, g_rs _ _ _ _ _⟩
  have G := g_enc64 ok.1
  have P := g_pos64 ok.1 ok.2
  have ev : q_dadd x y = Int.ofNat (FP.Core.encode FP.Core.b64 (FP.Core.round FP.Core.b64 (FP.Core.exactSum (FP.Core.decode FP.Core.b64 x.toNat) (FP.Core.decode FP.Core.b64 y.toNat)))) := by
    unfold q_dadd; rw [es, UInt64.toNat_ofNat_of_lt' G.2]
  rw [es, ev]
  exact ⟨g_n64 G.1 G.2, Int.natCast_nonneg _, Int.ofNat_le.mpr P⟩
/-- not negative, no NaN -/
def g_P (x : Int) : Prop := 0 ≤ x ∧ x ≤ 9218868437227405312
/-- a round of Newton's -/
theorem g_newton {v r : Int} (hv : 0 < v ∧ v < 9218868437227405312) (hr : g_P r) : q_n64 (FP.ddiv (UInt64.ofNat v.toNat) (UInt64.ofNat r.toNat)) = true ∧ q_n64 (FP.dadd (UInt64.ofNat r.toNat) (UInt64.ofNat (q_ddiv v r).toNat)) = true ∧ q_n64 (FP.ddiv (UInt64.ofNat (q_dadd r (q_ddiv v r)).toNat) (UInt64.ofNat (4611686018427387904 : Int).toNat)) = true ∧ g_P (q_ddiv (q_dadd r (q_ddiv v r)) 4611686018427387904) := by
  have D := g_dq (x := v) (y := r) ⟨by omega, hv.2⟩ hr (Or.inl (by omega))
  have A := g_da (x := r) (y := q_ddiv v r) hr D.2
  by_cases c : q_dadd r (q_ddiv v r) < 9218868437227405312
  · have E := g_dq (x := q_dadd r (q_ddiv v r)) (y := 4611686018427387904) ⟨A.2.1, c⟩ (by omega) (Or.inr (by omega))
    exact ⟨D.1, A.1, E.1, E.2⟩
  · have e : q_dadd r (q_ddiv v r) = 9218868437227405312 := by have := A.2.2; omega
    rw [e]
    have k : q_n64 (FP.ddiv (UInt64.ofNat (9218868437227405312 : Int).toNat) (UInt64.ofNat (4611686018427387904 : Int).toNat)) = true ∧ q_ddiv 9218868437227405312 4611686018427387904 = 9218868437227405312 := by decide +kernel
    refine ⟨D.1, by have := A.1; exact this, k.1, by rw [k.2]; unfold g_P; omega⟩
theorem g_i2dv {i : Int} (h : 0 ≤ i ∧ i < 2147483648) : 0 ≤ q_i2d i ∧ q_i2d i < 9218868437227405312 ∧ (i ≠ 0 → 0 < q_i2d i) := by
  have r : q_r32 i := by unfold q_r32; omega
  obtain ⟨a1, a2⟩ := g_i2d r
  have g := g_i64 a2
  have p := g.2.2.2 h.1
  have n0 : 0 ≤ q_i2d i := Int.natCast_nonneg _
  refine ⟨n0, by omega, fun h9 => ?_⟩
  have := g.2.2.1 h9
  omega
theorem g_z0 : q_i2d 0 = 0 ∧ q_dcmp .l 0 0 = 0 ∧ q_l2d 0 = 0 := by decide +kernel
theorem g_crl {h : q_F} {v : Int} (hv : 0 < v ∧ v < 9218868437227405312) : ∀ (d k f : Nat) (r : Int), k + d = 60 → d < f → g_P r → ∃ x, fn80_40 h f v r k = some x ∧ g_P x := by
  intro d
  induction d with
  | zero =>
    intro k f r hk hf hr
    obtain ⟨f, rfl⟩ : ∃ f', f = f' + 1 := ⟨f - 1, by omega⟩
    exact ⟨r, by rw [fn80_40, if_pos (by omega)], hr⟩
  | succ d ih =>
    intro k f r hk hf hr
    obtain ⟨f, rfl⟩ : ∃ f', f = f' + 1 := ⟨f - 1, by omega⟩
    obtain ⟨n1, n2, n3, n4⟩ := g_newton hv hr
    rw [fn80_40, if_neg (by omega)]
    by_cases c : q_dcmp .l r 0 ≤ 0
    · rw [if_pos c]; exact ⟨r, rfl, hr⟩
    · rw [if_neg c, if_pos n1, if_pos n2, if_pos n3, q_w32_id (by omega) (by omega), ← m_s1]
      exact ih (k + 1) f _ (by omega) (by omega) n4
theorem g_rrl {h : q_F} {v : Int} (hv : 0 < v ∧ v < 9218868437227405312) : ∀ (d k f : Nat) (r : Int), k + d = 60 → d < f → g_P r → ∃ x, fn323_13 h f v r k = some x ∧ g_P x := by
  intro d
  induction d with
  | zero =>
    intro k f r hk hf hr
    obtain ⟨f, rfl⟩ : ∃ f', f = f' + 1 := ⟨f - 1, by omega⟩
    exact ⟨r, by rw [fn323_13, if_pos (by omega)], hr⟩
  | succ d ih =>
    intro k f r hk hf hr
    obtain ⟨f, rfl⟩ : ∃ f', f = f' + 1 := ⟨f - 1, by omega⟩
    obtain ⟨n1, n2, n3, n4⟩ := g_newton hv hr
    rw [fn323_13, if_neg (by omega), if_pos n1, if_pos n2, if_pos n3, q_w32_id (by omega) (by omega), ← m_s1]
    exact ih (k + 1) f _ (by omega) (by omega) n4
theorem g_croot {h : q_F} {i : Int} (hi : 0 ≤ i ∧ i < 2147483648) : ∃ x, fn80_40 h q_fu (q_i2d i) (q_i2d i) 0 = some x ∧ g_P x := by
  have g := g_i2dv hi
  by_cases c : i = 0
  · subst c
    obtain ⟨n, e⟩ := m_fu3
    rw [e, g_z0.1, fn80_40, if_neg (by omega), g_z0.2.1, if_pos (by omega)]
    exact ⟨0, rfl, by unfold g_P; omega⟩
  · exact g_crl ⟨g.2.2 c, g.2.1⟩ 60 0 q_fu _ (by omega) (by have := q_fu_ge; omega) ⟨g.1, by omega⟩
theorem g_rroot {h : q_F} {i : Int} (hi : 0 ≤ i ∧ i < 2147483648) : ∃ x, fn323 (q_i2d i) h = some x ∧ g_P x := by
  have g := g_i2dv hi
  unfold fn323
  by_cases c : i = 0
  · subst c
    rw [g_z0.1, g_z0.2.1, if_pos rfl]
    exact ⟨0, rfl, by unfold g_P; omega⟩
  · split
    · exact ⟨0, rfl, by unfold g_P; omega⟩
    · exact g_rrl ⟨g.2.2 c, g.2.1⟩ 60 0 q_fu _ (by omega) (by have := q_fu_ge; omega) ⟨g.1, by omega⟩
theorem m_sqr {d : Int} (h : -2000 ≤ d ∧ d ≤ 2000) : 0 ≤ d * d ∧ d * d ≤ 4000000 := by
  by_cases c : 0 ≤ d
  · have := m_mulr (x := d) (l := d) (a := 2000) (b := 2000) c h.2 c h.2; omega
  · have := m_mulr (x := -d) (l := -d) (a := 2000) (b := 2000) (by omega) (by omega) (by omega) (by omega)
    rw [Int.neg_mul_neg] at this; omega
theorem c_len {h : q_F} {p : Nat → Int} (ok : m_ok p) (hP : c_Plan h p) {m : Nat} (hm : (m : Int) < p 4) : ∃ x, fn80 m h = some x ∧ g_P x := by
  have h16 := ok.2.1
  obtain ⟨n, e⟩ := m_fu3
  have st : ∀ (a f : Nat) (u : Int), a < 3 → 0 ≤ u → u ≤ 100000000 → ∃ u', 0 ≤ u' ∧ u' ≤ u + 4000000 ∧ fn80_4 h (f + 1) m u a = fn80_4 h f m u' ((a + 1 : Nat) : Int) := fun a f u ha u0 u1 => by
    have sq := m_sqr (m_d_r ok (m := m) (a := a) (by omega) ha)
    refine ⟨u + m_d p m a * m_d p m a, by omega, by omega, ?_⟩
    rw [fn80_4, if_neg (by omega), c_dis ok hP hm ha, Option.bind_some, Option.bind_some, q_w32_id (z := m_d p m a * m_d p m a) (by omega) (by omega), q_w32_id (z := u + m_d p m a * m_d p m a) (by omega) (by omega), q_w32_id (by omega) (by omega), ← m_s1]
  obtain ⟨u1, a1, a2, a3⟩ := st 0 (n + 1 + 1 + 1) 0 (by omega) (by omega) (by omega)
  obtain ⟨u2, b1, b2, b3⟩ := st 1 (n + 1 + 1) u1 (by omega) (by omega) (by omega)
  obtain ⟨u3, d1, d2, d3⟩ := st 2 (n + 1) u2 (by omega) (by omega) (by omega)
  obtain ⟨x, x1, x2⟩ := g_croot (h := h) (i := u3) (by omega)
  refine ⟨x, ?_, x2⟩
  rw [fn80, e]
  refine a3.trans (b3.trans (d3.trans ?_))
  rw [fn80_4, if_pos (by omega)]; exact x1
theorem r_len {h : q_F} {p : Nat → Int} (ok : m_ok p) (hP : m_PA h p (p 4).toNat) {m : Nat} (hm : (m : Int) < p 4) : ∃ x, fn282 m h = some x ∧ g_P x := by
  have h16 := ok.2.1
  obtain ⟨n, e⟩ := m_fu3
  have st : ∀ (a f : Nat) (u : Int), a < 3 → 0 ≤ u → u ≤ 100000000 → ∃ u', 0 ≤ u' ∧ u' ≤ u + 4000000 ∧ fn282_4 h (f + 1) m u a = fn282_4 h f m u' ((a + 1 : Nat) : Int) := fun a f u ha u0 u1 => by
    have sq := m_sqr (m_d_r ok (m := m) (a := a) (by omega) ha)
    refine ⟨u + m_d p m a * m_d p m a, by omega, by omega, ?_⟩
    rw [fn282_4, if_neg (by omega), q_w32_id (z := 3 * (m : Int)) (by omega) (by omega), q_w32_id (z := 3 * (m : Int) + a) (by omega) (by omega), if_pos (by omega), if_pos (by omega), show (3 * (m : Int) + a).toNat = 3 * m + a by omega, (hP m (by omega)).1 a ha, q_w32_id (z := m_d p m a * m_d p m a) (by omega) (by omega), q_w32_id (z := u + m_d p m a * m_d p m a) (by omega) (by omega), q_w32_id (by omega) (by omega), ← m_s1]
  obtain ⟨u1, a1, a2, a3⟩ := st 0 (n + 1 + 1 + 1) 0 (by omega) (by omega) (by omega)
  obtain ⟨u2, b1, b2, b3⟩ := st 1 (n + 1 + 1) u1 (by omega) (by omega) (by omega)
  obtain ⟨u3, d1, d2, d3⟩ := st 2 (n + 1) u2 (by omega) (by omega) (by omega)
  obtain ⟨x, x1, x2⟩ := g_rroot (h := h) (i := u3) (by omega)
  refine ⟨x, ?_, x2⟩
  rw [fn282, e]
  refine a3.trans (b3.trans (d3.trans ?_))
  rw [fn282_4, if_pos (by omega), x1, Option.bind_some]
