/-! Part 97: the class's loadTable. -/
theorem c_seen01 (k : Int) (h : q_F) : ∃ x, fn107 k h = some x ∧ (x = 0 ∨ x = 1) := by
  unfold fn107; split
  · exact ⟨1, rfl, Or.inr rfl⟩
  · exact ⟨0, rfl, Or.inl rfl⟩
theorem c_setUp {h : q_F} (z3 : 1 ≤ h 3 2 ∧ h 3 2 ≤ 1000) (z5 : ∀ a, a < 3 → ∀ i, i < 6 → m_nr i (h 4 (6 * a + i))) (z6 : ∀ a, a < 3 → 0 ≤ h 5 a ∧ h 5 a ≤ h 4 (6 * a)) : ∃ h' w, fn139 6 h = some (0, h') ∧ c_ft 6 h h' ∧ c_tb h' 6 w ∧ m_RI w := by
  obtain ⟨h1, a1, a2, a3⟩ := c_newax (a := 0) (o := 7) (h := h) (by omega) (by omega)
  obtain ⟨h2, b1, b2, b3⟩ := c_newax (a := 1) (o := 9) (h := h1) (by omega) (by omega)
  obtain ⟨h3, d1, d2, d3⟩ := c_newax (a := 2) (o := 11) (h := h2) (by omega) (by omega)
  have e14 : h1 4 = h 4 := a2 4 (by omega) (by omega)
  have e15 : h1 5 = h 5 := a2 5 (by omega) (by omega)
  have e24 : h2 4 = h 4 := (b2 4 (by omega) (by omega)).trans e14
  have e25 : h2 5 = h 5 := (b2 5 (by omega) (by omega)).trans e15
  have e3 : h3 3 = h 3 := by rw [d2 3 (by omega) (by omega), b2 3 (by omega) (by omega), a2 3 (by omega) (by omega)]
  rw [e14, e15] at b3
  rw [e24, e25] at d3
  obtain ⟨cp, ec, c01⟩ := c_seen01 5 (q_ud (q_ud h3 13 1 0) 6 4 (h 3 2))
  obtain ⟨dt, ed, d01⟩ := c_seen01 6 (q_ud (q_ud (q_ud h3 13 1 0) 6 4 (h 3 2)) 6 5 cp)
  have a1' : fn56 (6 + 1) 0 h = some (0, h1) := a1
  have b1' : fn56 (6 + 3) 1 h1 = some (0, h2) := b1
  have d1' : fn56 (6 + 5) 2 h2 = some (0, h3) := d1
  have f3 : c_ft 6 h h3 := c_ft_t (c_ft_o a2 (by omega) (by omega)) (c_ft_t (c_ft_o b2 (by omega) (by omega)) (c_ft_o d2 (by omega) (by omega)))
  refine ⟨q_ud (q_ud (q_ud (q_ud (q_ud (q_ud (q_ud (q_ud h3 13 1 0) 6 4 (h 3 2)) 6 5 cp) 6 6 dt) 6 7 0) 6 8 0) 6 9 0) 6 10 0, m_new (h 3 2) cp dt (h 4) (h 5), ?_, ?_, ⟨fun a ha => ?_, ?_, ?_, fun j hj => ?_⟩, m_RI_new z3 c01 d01 z5 z6⟩
  · rw [fn139, a1', Option.bind_some]
    dsimp only
    rw [b1', Option.bind_some]
    dsimp only
    rw [d1', Option.bind_some, fn143, m_let, Option.bind_some, m_let]
    dsimp only
    rw [show (6 + 7) = 13 from rfl, q_ud_n (show ¬ (3 = 13 ∧ 2 = 1) by omega), e3, ec, Option.bind_some, m_let, ed, Option.bind_some, m_let, m_let, m_let, m_let, m_let]
  · exact c_ft_u (c_ft_u (c_ft_u (c_ft_u (c_ft_u (c_ft_u (c_ft_u (c_ft_u f3 (by omega) (by omega)) (by omega) (by omega)) (by omega) (by omega)) (by omega) (by omega)) (by omega) (by omega)) (by omega) (by omega)) (by omega) (by omega)) (by omega) (by omega)
  · have fin : ∀ o, (o = 7 ∨ o = 9 ∨ o = 11) → ∀ y, c_ax y o (m_new (h 3 2) cp dt (h 4) (h 5)) a → y o = h3 o → y (o + 1) = h3 (o + 1) → c_ax (q_ud (q_ud (q_ud (q_ud (q_ud (q_ud (q_ud (q_ud h3 13 1 0) 6 4 (h 3 2)) 6 5 cp) 6 6 dt) 6 7 0) 6 8 0) 6 9 0) 6 10 0) o (m_new (h 3 2) cp dt (h 4) (h 5)) a := fun o ho y hy e1 e2 => c_ax_h hy (by funext j; rw [q_ud_n (by omega), q_ud_n (by omega), q_ud_n (by omega), q_ud_n (by omega), q_ud_n (by omega), q_ud_n (by omega), q_ud_n (by omega), q_ud_n (by omega), e1]) (by funext j; rw [q_ud_n (by omega), q_ud_n (by omega), q_ud_n (by omega), q_ud_n (by omega), q_ud_n (by omega), q_ud_n (by omega), q_ud_n (by omega), q_ud_n (by omega), e2])
    rcases m_c3 ha with rfl | rfl | rfl
    · exact fin 7 (by omega) h1 (a3 _ _ _) (by rw [d2 7 (by omega) (by omega), b2 7 (by omega) (by omega)]) (by rw [d2 8 (by omega) (by omega), b2 8 (by omega) (by omega)])
    · exact fin 9 (by omega) h2 (b3 _ _ _) (by rw [d2 9 (by omega) (by omega)]) (by rw [d2 10 (by omega) (by omega)])
    · exact fin 11 (by omega) h3 (d3 _ _ _) rfl rfl
  · refine ⟨?_, ?_, ?_, ?_, ?_, ?_, ?_⟩
    · rw [q_ud_n (by omega), q_ud_n (by omega), q_ud_n (by omega), q_ud_n (by omega), q_ud_n (by omega), q_ud_n (by omega), q_ud_s]; rfl
    · rw [q_ud_n (by omega), q_ud_n (by omega), q_ud_n (by omega), q_ud_n (by omega), q_ud_n (by omega), q_ud_s]; rfl
    · rw [q_ud_n (by omega), q_ud_n (by omega), q_ud_n (by omega), q_ud_n (by omega), q_ud_s]; rfl
    · rw [q_ud_n (by omega), q_ud_n (by omega), q_ud_n (by omega), q_ud_s]; rfl
    · rw [q_ud_n (by omega), q_ud_n (by omega), q_ud_s]; rfl
    · rw [q_ud_n (by omega), q_ud_s]; rfl
    · rw [q_ud_s]; rfl
  · rw [q_ud_n (by omega), q_ud_n (by omega), q_ud_n (by omega), q_ud_n (by omega), q_ud_n (by omega), q_ud_n (by omega), q_ud_n (by omega)]
    exact q_ud_s _ _ _ _
  · rw [m_new_0 (by omega)] at hj
    simp at hj
/-- how loadTable of the class ends -/
theorem c_load {h : q_F} {S : m_St} (hI : c_I h S) (hm : m_I S) (hl : 0 ≤ h 1 1 ∧ h 1 1 ≤ 600) : ∃ v h' S', fn187 h = some (v, h') ∧ c_I h' S' ∧ m_I S' ∧ h' 1 1 = 0 ∧ ∀ k, 139 ≤ k → h' k = h k := by
  obtain ⟨h1, a1, Z, F1⟩ := c_parse hl
  have I2 : c_I (q_ud h1 1 1 0) S := c_I_k hI hm.2.1.1 (fun k hk => by funext j; rw [q_ud_n (by omega), F1 k (by omega)]) (by rw [q_ud_n (by omega), F1 0 (by omega)])
  rw [fn187, a1, Option.bind_some, m_let]
  dsimp only
  obtain ⟨z1, z2, z3, -, z5, z6⟩ := Z
  have e3 : q_ud h1 1 1 0 3 = h1 3 := by funext j; rw [q_ud_n (by omega)]
  have e4 : q_ud h1 1 1 0 4 = h1 4 := by funext j; rw [q_ud_n (by omega)]
  have e5 : q_ud h1 1 1 0 5 = h1 5 := by funext j; rw [q_ud_n (by omega)]
  have k1 : ∀ k, 139 ≤ k → q_ud h1 1 1 0 k = h k := fun k hk => by funext j; rw [q_ud_n (by omega), F1 k (by omega)]
  have l1 : q_ud h1 1 1 0 1 1 = 0 := q_ud_s _ _ _ _
  generalize q_ud h1 1 1 0 = g at I2 e3 e4 e5 k1 l1 ⊢
  split
  · obtain ⟨g2, w, b1, b2, b3, b4⟩ := c_setUp (h := g) (by rw [e3]; exact z3) (by rw [e4]; exact z5) (by rw [e4, e5]; exact z6)
    obtain ⟨i1, ⟨i2, i3, i4, i5⟩, i6, i7⟩ := I2
    rw [b1, Option.bind_some, fn65, m_let, Option.bind_some, m_let, m_let]
    dsimp only
    refine ⟨_, _, m_mkS w 0 S.P 0 S.ws, rfl, ⟨?_, ⟨?_, ?_, ?_, fun k hk => absurd hk (Nat.not_lt_zero k)⟩, q_ud_s _ _ _ _, fun h9 => absurd rfl h9⟩, ⟨b4, ⟨Nat.zero_le _, fun k hk => absurd hk (Nat.not_lt_zero k)⟩, Or.inl rfl, fun h9 => absurd rfl h9⟩, ?_, fun k hk => ?_⟩
    · exact c_tb_k b3 fun k x y => by funext j; rw [q_ud_n (by omega), q_ud_n (by omega), q_ud_n (by omega)]
    · rw [q_ud_n (by omega), q_ud_n (by omega), q_ud_s]; rfl
    · rw [q_ud_n (by omega), q_ud_n (by omega), q_ud_n (by omega), b2 33 (by omega)]; exact i3
    · rw [q_ud_n (by omega), q_ud_n (by omega), q_ud_n (by omega), b2 33 (by omega)]; exact i4
    · rw [q_ud_n (by omega), q_ud_n (by omega), q_ud_n (by omega), b2 1 (by omega)]; exact l1
    · funext j
      rw [q_ud_n (by omega), q_ud_n (by omega), q_ud_n (by omega), b2 k (by omega), k1 k hk]
  · exact ⟨_, _, S, rfl, I2, hm, l1, k1⟩
