/-! Part 98za: both sides hold one state; loadTable keeps it so, and answers alike. -/
def j_T (S1 S2 : m_St) (h : q_F) : Prop := (m_I S1 ∧ c_I h S1) ∧ (m_I S2 ∧ r_I h S2) ∧ (∃ (B : Nat → Int) (n : Nat), s_ct B n h ∧ s_rt B n h) ∧ (h 3 4 = h 139 15 ∧ h 3 5 = h 139 16) ∧ 0 ≤ h 139 27 ∧ h 139 27 ≤ 300
theorem j_T_J {S1 S2 : m_St} {h : q_F} (J : j_T S1 S2 h) : j_J h ∧ h 1 1 = h 139 14 := by
  obtain ⟨⟨m1, i1⟩, ⟨m2, i2⟩, ⟨B, n, Tc, Tr⟩, -, o⟩ := J
  have := Tc.2.1
  exact ⟨⟨⟨S1, m1, i1⟩, ⟨S2, m2, i2⟩, by rw [Tc.1]; omega, by rw [Tr.1]; omega, o⟩, by rw [Tc.1, Tr.1]⟩
theorem s_text0 {h : q_F} (hc : h 1 1 = 0) (hr : h 139 14 = 0) : ∃ (B : Nat → Int) (n : Nat), s_ct B n h ∧ s_rt B n h := ⟨fun _ => 0, 0, ⟨hc, by omega, fun k hk => absurd hk (Nat.not_lt_zero k)⟩, ⟨hr, by omega, fun k hk => absurd hk (Nat.not_lt_zero k), fun k hk => absurd hk (Nat.not_lt_zero k)⟩⟩
theorem t_load {S : m_St} {h : q_F} (J : j_T S S h) : ∃ v h1 h2 S', fn187 h = some (v, h1) ∧ fn283 h1 = some (v, h2) ∧ j_T S' S' h2 := by
  obtain ⟨⟨hm, hc⟩, ⟨-, hr⟩, ⟨B, n, Tc, Tr⟩, -, o0, o1⟩ := J
  have hl : 0 ≤ h 1 1 ∧ h 1 1 ≤ 600 := by rw [Tc.1]; have := Tc.2.1; omega
  obtain ⟨c0, f1, G, f2, f3, f4, f5, f6⟩ := s_forget h
  obtain ⟨h1, p1, Z, F1⟩ := c_parse hl
  have p2 : fn117_6 1 q_fu (0 : Int) c0 = some (0, h1) := by rw [fn117, f1, Option.bind_some] at p1; exact p1
  have T0 : s_ct B n c0 := s_ct_F Tc G.1
  obtain ⟨-, -, z3, ⟨s, s1, s2, -⟩, z5, z6⟩ := Z
  have I2 : c_I (q_ud h1 1 1 0) S := c_I_k hc hm.2.1.1 (fun k hk => by funext j; rw [q_ud_n (by omega), F1 k (by omega)]) (by rw [q_ud_n (by omega), F1 0 (by omega)])
  rw [fn187, p1, Option.bind_some, m_let]
  dsimp only
  have e3 : q_ud h1 1 1 0 3 = h1 3 := by funext j; rw [q_ud_n (by omega)]
  have e4 : q_ud h1 1 1 0 4 = h1 4 := by funext j; rw [q_ud_n (by omega)]
  have e5 : q_ud h1 1 1 0 5 = h1 5 := by funext j; rw [q_ud_n (by omega)]
  have k1 : ∀ k, 139 ≤ k → q_ud h1 1 1 0 k = h k := fun k hk => by funext j; rw [q_ud_n (by omega), F1 k (by omega)]
  have l1 : q_ud h1 1 1 0 1 1 = 0 := q_ud_s _ _ _ _
  generalize q_ud h1 1 1 0 = g at I2 e3 e4 e5 k1 l1 ⊢
  -- what the reference makes of it, on any heap that holds its part
  have R : ∀ y : q_F, (∀ k, 139 ≤ k → y k = h k) → ∃ v h' w, fn283 y = some (v, h') ∧ (∀ k, k < 139 ∨ 152 ≤ k → h' k = y k) ∧ h' 139 14 = 0 ∧ h' 139 27 = h 139 27 ∧ h1 3 5 = h' 139 16 ∧ h1 3 4 = h' 139 15 ∧
    ((h1 3 4 = 0 ∧ r_I h' (m_mkS w 0 S.P 0 S.ws) ∧ m_RI w ∧ v = w 8 + w 9 + w 10 ∧ ∀ j, j < 122 → m_new (h1 3 2) ((s / 32 % 2 : Nat) : Int) ((s / 64 % 2 : Nat) : Int) (h1 4) (h1 5) j = w j) ∨
     (h1 3 4 ≠ 0 ∧ r_I h' (m_set S w) ∧ (∀ j, j < 122 → w j = S.w j) ∧ v = -1)) := fun y hy => by
    have y9 := hy 139 (by omega)
    obtain ⟨c', v, h', w, x1, x2, x3, x4, x5, x6, x7, x8⟩ := s_rload (h := y) (S := S) T0 G f2 f3 f4 f5 f6 ⟨by rw [y9]; exact Tr.1, Tr.2.1, fun k hk => by rw [hy 150 (by omega)]; exact Tr.2.2.1 k hk, Tr.2.2.2⟩ (r_I_k hr (fun k hk => hy k (by omega)) (by rw [y9]) (by rw [y9])) hm
    have e9 := Option.some.inj (x1.symm.trans p2)
    have ec : c' = h1 := congrArg Prod.snd e9
    subst ec
    refine ⟨v, h', w, x2, x3, x4, by rw [x5, y9], x6, x7, ?_⟩
    rcases x8 with ⟨q1, q2, q3, q4, t, t1, t2, t3⟩ | q
    · obtain rfl : s = t := by omega
      exact Or.inl ⟨q1, q2, q3, q4, t3⟩
    · exact Or.inr q
  by_cases z : g 3 4 = 0
  · obtain ⟨g2, b1, b2, b3, b4⟩ := s_setUp (h := g) s1 (by rw [e3]; exact s2) (by rw [e3]; exact z3) (by rw [e4]; exact z5) (by rw [e4, e5]; exact z6)
    rw [e3, e4, e5] at b3 b4
    obtain ⟨i1, ⟨i2, i3, i4, i5⟩, i6, i7⟩ := I2
    rw [if_pos z, b1, Option.bind_some, fn65, m_let, Option.bind_some, m_let, m_let]
    dsimp only
    have Y : ∀ k, k ≠ 0 → k ≠ 33 → k ≠ 137 → q_ud (q_ud (q_ud g2 33 1 0) 137 1 0) 0 9 0 k = g2 k := fun k x y z => by funext j; rw [q_ud_n (by omega), q_ud_n (by omega), q_ud_n (by omega)]
    have Y9 : q_ud (q_ud (q_ud g2 33 1 0) 137 1 0) 0 9 0 0 9 = 0 := q_ud_s _ _ _ _
    have Y331 : q_ud (q_ud (q_ud g2 33 1 0) 137 1 0) 0 9 0 33 1 = 0 := by rw [q_ud_n (by omega), q_ud_n (by omega), q_ud_s]
    have Y332 : q_ud (q_ud (q_ud g2 33 1 0) 137 1 0) 0 9 0 33 2 = g 33 2 := by rw [q_ud_n (by omega), q_ud_n (by omega), q_ud_n (by omega), b2 33 (by omega)]
    generalize q_ud (q_ud (q_ud g2 33 1 0) 137 1 0) 0 9 0 = y at Y Y9 Y331 Y332 ⊢
    have tb : c_tb y 6 (m_new (h1 3 2) ((s / 32 % 2 : Nat) : Int) ((s / 64 % 2 : Nat) : Int) (h1 4) (h1 5)) := c_tb_k b3 fun k x1 x2 => Y k (by omega) (by omega) (by omega)
    have hy : ∀ k, 139 ≤ k → y k = h k := fun k hk => by rw [Y k (by omega) (by omega) (by omega), b2 k (by omega), k1 k hk]
    obtain ⟨v, h', w, x2, x3, x4, x5, x6, x7, x8⟩ := R y hy
    rcases x8 with ⟨-, q2, q3, q4, q5⟩ | ⟨q1, -⟩
    · have tw : c_tb y 6 w := c_tb_c tb (by rw [m_new_0 (by omega)]; omega) (fun j hj => (q5 j hj).symm)
      have a0 : y 7 0 = w 8 := (tw.1 0 (by omega)).1 0 (by omega)
      have a1 : y 9 0 = w 9 := (tw.1 1 (by omega)).1 0 (by omega)
      have a2 : y 11 0 = w 10 := (tw.1 2 (by omega)).1 0 (by omega)
      have n0 : 1 ≤ w 8 ∧ w 8 ≤ 2000 := by rw [← q5 8 (by omega)]; exact (z5 0 (by omega) 0 (by omega)).1 rfl
      have n1 : 1 ≤ w 9 ∧ w 9 ≤ 2000 := by rw [← q5 9 (by omega)]; exact (z5 1 (by omega) 0 (by omega)).1 rfl
      have n2 : 1 ≤ w 10 ∧ w 10 ≤ 2000 := by rw [← q5 10 (by omega)]; exact (z5 2 (by omega) 0 (by omega)).1 rfl
      have mS : m_I (m_mkS w 0 S.P 0 S.ws) := ⟨q3, ⟨Nat.zero_le _, fun k hk => absurd hk (Nat.not_lt_zero k)⟩, Or.inl rfl, fun h9 => absurd rfl h9⟩
      refine ⟨v, y, h', m_mkS w 0 S.P 0 S.ws, ?_, x2, ⟨mS, ?_⟩, ⟨mS, q2⟩, s_text0 ?_ x4, ⟨?_, ?_⟩, ?_, ?_⟩
      · rw [a0, a1, a2, q_w32_id (z := w 8 + w 9) (by omega) (by omega), q_w32_id (by omega) (by omega), q4]
      · refine ⟨c_tb_k tw fun k y1 y2 => x3 k (by omega), ⟨?_, ?_, ?_, fun k hk => absurd hk (Nat.not_lt_zero k)⟩, ?_, fun h9 => absurd rfl h9⟩
        · rw [x3 33 (by omega), Y331]; rfl
        · rw [x3 33 (by omega), Y332]; exact i3
        · rw [x3 33 (by omega), Y332]; exact i4
        · rw [x3 0 (by omega), Y9]; rfl
      · rw [x3 1 (by omega), Y 1 (by omega) (by omega) (by omega), b2 1 (by omega)]; exact l1
      · rw [x3 3 (by omega), Y 3 (by omega) (by omega) (by omega), b2 3 (by omega), e3]; exact x7
      · rw [x3 3 (by omega), Y 3 (by omega) (by omega) (by omega), b2 3 (by omega), e3]; exact x6
      · rw [x5]; exact o0
      · rw [x5]; exact o1
    · rw [e3] at z; exact absurd z q1
  · rw [if_neg z]
    obtain ⟨v, h', w, x2, x3, x4, x5, x6, x7, x8⟩ := R g k1
    rcases x8 with ⟨q1, -⟩ | ⟨-, q2, q3, q4⟩
    · rw [e3] at z; exact absurd q1 z
    · have mS : m_I (m_set S w) := m_I_set hm (m_RI_c hm.1 q3)
      have cI : c_I g (m_set S w) := c_I_set I2 (fun _ _ => rfl) (c_tb_c I2.1 (m_R0_ok hm.1.1).2.1.2 q3)
      refine ⟨v, g, h', m_set S w, by rw [q4], x2, ⟨mS, ?_⟩, ⟨mS, q2⟩, s_text0 ?_ x4, ⟨?_, ?_⟩, ?_, ?_⟩
      · exact c_I_k cI hm.2.1.1 (fun k hk => x3 k (by omega)) (by rw [x3 0 (by omega)])
      · rw [x3 1 (by omega)]; exact l1
      · rw [x3 3 (by omega), e3]; exact x7
      · rw [x3 3 (by omega), e3]; exact x6
      · rw [x5]; exact o0
      · rw [x5]; exact o1
