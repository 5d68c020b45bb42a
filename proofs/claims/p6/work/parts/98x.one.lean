/-! Part 98x: both sides before the first token; what a text that is right lays. -/
theorem s_fgl {h0 : q_F} : ∀ (d a f : Nat) (h : q_F), a + d = 3 → d < f → c_fgt h0 h a → ∃ h', fn105_2 f a h = some (0, h') ∧ c_fgt h0 h' 3 ∧ h' 3 2 = 100 ∧ h' 3 3 = 0 ∧ h' 3 4 = 0 ∧ h' 3 5 = -1 ∧ h' 3 6 = 0 := by
  intro d
  induction d with
  | zero =>
    intro a f h hd hf G
    obtain ⟨f, rfl⟩ : ∃ f', f = f' + 1 := ⟨f - 1, by omega⟩
    obtain rfl : a = 3 := by omega
    obtain ⟨F, G⟩ := G
    rw [fn105_2, if_pos (by omega), m_let, m_let, m_let, m_let, m_let]
    refine ⟨_, rfl, ⟨c_F3_u (c_F3_u (c_F3_u (c_F3_u (c_F3_u F (by omega)) (by omega)) (by omega)) (by omega)) (by omega), fun a ha => ?_⟩, ?_, ?_, ?_, ?_, ?_⟩
    · obtain ⟨g, g0, g1, g2, g3, g4, g5⟩ := G a ha
      refine ⟨?_, ?_, ?_, ?_, ?_, ?_, ?_⟩ <;> (rw [q_ud_n (by omega), q_ud_n (by omega), q_ud_n (by omega), q_ud_n (by omega), q_ud_n (by omega)]; assumption)
    · rw [q_ud_n (by omega), q_ud_n (by omega), q_ud_n (by omega), q_ud_n (by omega), q_ud_s]
    · rw [q_ud_n (by omega), q_ud_n (by omega), q_ud_n (by omega), q_ud_s]
    · rw [q_ud_n (by omega), q_ud_n (by omega), q_ud_s]
    · rw [q_ud_n (by omega), q_ud_s]
    · rw [q_ud_s]
  | succ d ih =>
    intro a f h hd hf G
    obtain ⟨f, rfl⟩ : ∃ f', f = f' + 1 := ⟨f - 1, by omega⟩
    have ha : a < 3 := by omega
    have k0 : ∀ v h, fn113 a 0 v h = some (0, q_ud h 4 (6 * a) v) := fun v h => c_keepA (i := 0) ha (by omega)
    have k1 : ∀ v h, fn113 a 1 v h = some (0, q_ud h 4 (6 * a + 1) v) := fun v h => c_keepA (i := 1) ha (by omega)
    have k2 : ∀ v h, fn113 a 2 v h = some (0, q_ud h 4 (6 * a + 2) v) := fun v h => c_keepA (i := 2) ha (by omega)
    have k3 : ∀ v h, fn113 a 3 v h = some (0, q_ud h 4 (6 * a + 3) v) := fun v h => c_keepA (i := 3) ha (by omega)
    have k4 : ∀ v h, fn113 a 4 v h = some (0, q_ud h 4 (6 * a + 4) v) := fun v h => c_keepA (i := 4) ha (by omega)
    have k5 : ∀ v h, fn113 a 5 v h = some (0, q_ud h 4 (6 * a + 5) v) := fun v h => c_keepA (i := 5) ha (by omega)
    rw [fn105_2, if_neg (by omega), c_put (by omega) (by omega), Option.bind_some]
    dsimp only
    rw [k0, Option.bind_some]
    dsimp only
    rw [k1, Option.bind_some]
    dsimp only
    rw [k2, Option.bind_some]
    dsimp only
    rw [k3, Option.bind_some]
    dsimp only
    rw [k4, Option.bind_some]
    dsimp only
    rw [k5, Option.bind_some]
    dsimp only
    rw [Int.toNat_natCast, q_w32_id (by omega) (by omega), ← m_s1]
    obtain ⟨F, G⟩ := G
    refine ih (a + 1) f _ (by omega) (by omega) ⟨c_F3_u (c_F3_u (c_F3_u (c_F3_u (c_F3_u (c_F3_u (c_F3_u F (by omega)) (by omega)) (by omega)) (by omega)) (by omega)) (by omega)) (by omega), fun b hb => ?_⟩
    by_cases e : b = a
    · subst e
      refine ⟨?_, ?_, ?_, ?_, ?_, ?_, ?_⟩ <;> (simp [q_ud]) <;> omega
    · obtain ⟨g, g0, g1, g2, g3, g4, g5⟩ := G b (by omega)
      refine ⟨?_, ?_, ?_, ?_, ?_, ?_, ?_⟩ <;> (rw [q_ud_n (by omega), q_ud_n (by omega), q_ud_n (by omega), q_ud_n (by omega), q_ud_n (by omega), q_ud_n (by omega), q_ud_n (by omega)]; assumption)
theorem s_forget (h : q_F) : ∃ h', fn105 h = some (0, h') ∧ c_fgt h h' 3 ∧ h' 3 2 = 100 ∧ h' 3 3 = 0 ∧ h' 3 4 = 0 ∧ h' 3 5 = -1 ∧ h' 3 6 = 0 := s_fgl 3 0 q_fu h (by omega) (by have := q_fu_ge; omega) ⟨c_F3_r, fun a ha => absurd ha (Nat.not_lt_zero a)⟩
theorem s_X_fg {h0 c g : q_F} (G : c_fgt h0 c 3) (h2 : c 3 2 = 100) (hg : ∀ j, j < 122 → g 140 j = m_clr 3 j) : s_X c g := by
  intro st sl ok
  have pl : s_pl' st sl < 122 := by unfold s_pl'; unfold s_ok at ok; split <;> (try split) <;> omega
  rw [hg _ pl]
  obtain ⟨-, G⟩ := G
  unfold s_ok at ok
  unfold s_c1 s_c2 s_pl' m_clr
  by_cases h3 : st < 3
  · rw [if_pos h3, if_pos h3, if_pos h3]
    obtain ⟨-, g0, g1, g2, g3, g4, g5⟩ := G st h3
    obtain rfl | rfl | rfl | rfl | rfl | rfl : sl = 0 ∨ sl = 1 ∨ sl = 2 ∨ sl = 3 ∨ sl = 4 ∨ sl = 5 := by omega
    · rw [if_neg (by omega), if_pos (by omega)]; exact g0
    · rw [if_neg (by omega), if_neg (by omega), if_neg (by omega), if_neg (by omega), if_neg (by omega), if_neg (by omega), if_neg (by omega)]; exact g1
    · rw [if_neg (by omega), if_neg (by omega), if_pos (by omega)]; exact g2
    · rw [if_neg (by omega), if_neg (by omega), if_neg (by omega), if_pos (by omega)]; exact g3
    · rw [if_neg (by omega), if_neg (by omega), if_neg (by omega), if_neg (by omega), if_pos (by omega)]; exact g4
    · rw [if_neg (by omega), if_neg (by omega), if_neg (by omega), if_neg (by omega), if_neg (by omega), if_pos (by omega)]; exact g5
  · rw [if_neg h3, if_neg h3, if_neg h3]
    by_cases e3 : st = 3
    · rw [if_pos e3, if_pos e3, if_pos e3, if_neg (by omega), if_neg (by omega), if_neg (by omega), if_neg (by omega), if_neg (by omega), if_neg (by omega), if_neg (by omega)]; exact (G sl (by omega)).1
    · rw [if_neg e3, if_neg e3, if_neg e3, if_pos rfl]; exact h2
theorem s_setUp {h : q_F} {s : Nat} (hs : s < 128) (hc : h 3 3 = (s : Int)) (z3 : 1 ≤ h 3 2 ∧ h 3 2 ≤ 1000) (z5 : ∀ a, a < 3 → ∀ i, i < 6 → m_nr i (h 4 (6 * a + i))) (z6 : ∀ a, a < 3 → 0 ≤ h 5 a ∧ h 5 a ≤ h 4 (6 * a)) : ∃ h', fn139 6 h = some (0, h') ∧ c_ft 6 h h' ∧ c_tb h' 6 (m_new (h 3 2) ((s / 32 % 2 : Nat) : Int) ((s / 64 % 2 : Nat) : Int) (h 4) (h 5)) ∧ m_RI (m_new (h 3 2) ((s / 32 % 2 : Nat) : Int) ((s / 64 % 2 : Nat) : Int) (h 4) (h 5)) := by
  obtain ⟨h1, a1, a2, a3⟩ := c_newax (a := 0) (o := 7) (h := h) (by omega) (by omega)
  obtain ⟨h2, b1, b2, b3⟩ := c_newax (a := 1) (o := 9) (h := h1) (by omega) (by omega)
  obtain ⟨h3, d1, d2, d3⟩ := c_newax (a := 2) (o := 11) (h := h2) (by omega) (by omega)
  have e14 : h1 4 = h 4 := a2 4 (by omega) (by omega)
  have e15 : h1 5 = h 5 := a2 5 (by omega) (by omega)
  have e24 : h2 4 = h 4 := (b2 4 (by omega) (by omega)).trans e14
  have e25 : h2 5 = h 5 := (b2 5 (by omega) (by omega)).trans e15
  have e3 : h3 3 = h 3 := by rw [d2 3 (by omega) (by omega), b2 3 (by omega) (by omega), a2 3 (by omega) (by omega)]
  rw [e14, e15] at b3
  rw [e24, e25] at d3
  have b01 : ∀ x : Nat, (if x % 2 = 1 then (1 : Int) else 0) = ((x % 2 : Nat) : Int) := fun x => by split <;> omega
  obtain ⟨cp, hcp⟩ : ∃ cp : Int, cp = ((s / 32 % 2 : Nat) : Int) := ⟨_, rfl⟩
  obtain ⟨dt, hdt⟩ : ∃ dt : Int, dt = ((s / 64 % 2 : Nat) : Int) := ⟨_, rfl⟩
  have c01 : cp = 0 ∨ cp = 1 := by omega
  have d01 : dt = 0 ∨ dt = 1 := by omega
  have ec : fn107 5 (q_ud (q_ud h3 13 1 0) 6 4 (h 3 2)) = some cp := by
    have := s_107 (k := 5) (h := q_ud (q_ud h3 13 1 0) 6 4 (h 3 2)) hs (by omega) (by rw [q_ud_n (by omega), q_ud_n (by omega), e3]; exact hc)
    rw [hcp, ← b01]; exact this
  have ed : fn107 6 (q_ud (q_ud (q_ud h3 13 1 0) 6 4 (h 3 2)) 6 5 cp) = some dt := by
    have := s_107 (k := 6) (h := q_ud (q_ud (q_ud h3 13 1 0) 6 4 (h 3 2)) 6 5 cp) hs (by omega) (by rw [q_ud_n (by omega), q_ud_n (by omega), q_ud_n (by omega), e3]; exact hc)
    rw [hdt, ← b01]; exact this
  rw [← hcp, ← hdt]
  have a1' : fn56 (6 + 1) 0 h = some (0, h1) := a1
  have b1' : fn56 (6 + 3) 1 h1 = some (0, h2) := b1
  have d1' : fn56 (6 + 5) 2 h2 = some (0, h3) := d1
  have f3 : c_ft 6 h h3 := c_ft_t (c_ft_o a2 (by omega) (by omega)) (c_ft_t (c_ft_o b2 (by omega) (by omega)) (c_ft_o d2 (by omega) (by omega)))
  refine ⟨q_ud (q_ud (q_ud (q_ud (q_ud (q_ud (q_ud (q_ud h3 13 1 0) 6 4 (h 3 2)) 6 5 cp) 6 6 dt) 6 7 0) 6 8 0) 6 9 0) 6 10 0, ?_, ?_, ⟨fun a ha => ?_, ?_, ?_, fun j hj => ?_⟩, m_RI_new z3 c01 d01 z5 z6⟩
  · rw [fn139, a1', Option.bind_some]
    dsimp only
    rw [b1', Option.bind_some]
    dsimp only
    rw [d1', Option.bind_some, fn143, m_let, Option.bind_some, m_let]
    dsimp only
    rw [show (6 + 7) = 13 from rfl, q_ud_n (show ¬ (3 = 13 ∧ 2 = 1) by omega), e3, ec, Option.bind_some, m_let, ed, Option.bind_some, m_let, m_let, m_let, m_let, m_let]
  · exact c_ft_u (c_ft_u (c_ft_u (c_ft_u (c_ft_u (c_ft_u (c_ft_u (c_ft_u f3 (by omega) (by omega)) (by omega) (by omega)) (by omega) (by omega)) (by omega) (by omega)) (by omega) (by omega)) (by omega) (by omega)) (by omega) (by omega)) (by omega) (by omega)
  · have fin : ∀ o, (o = 7 ∨ o = 9 ∨ o = 11) → ∀ y, c_ax y o (m_new (h 3 2) cp dt (h 4) (h 5)) a → y o = h3 o → y (o + 1) = h3 (o + 1) → c_ax (q_ud (q_ud (q_ud (q_ud (q_ud (q_ud (q_ud (q_ud h3 13 1 0) 6 4 (h 3 2)) 6 5 cp) 6 6 dt) 6 7 0) 6 8 0) 6 9 0) 6 10 0) o (m_new (h 3 2) cp dt (h 4) (h 5)) a := fun o ho y hy e1 e2 => c_ax_h hy (by funext j; rw [q_ud_n (by omega), q_ud_n (by omega), q_ud_n (by omega), q_ud_n (by omega), q_ud_n (by omega), q_ud_n (by omega), q_ud_n (by omega), q_ud_n (by omega), e1]) (by funext j; rw [q_ud_n (by omega), q_ud_n (by omega), q_ud_n (by omega), q_ud_n (by omega), q_ud_n (by omega), q_ud_n (by omega), q_ud_n (by omega), q_ud_n (by omega), e2])
    rcases m_c3 ha with rfl | rfl | rfl
    · exact fin 7 (by omega) h1 (a3 _ _ _) (by rw [d2 7 (by omega) (by omega), b2 7 (by omega) (by omega)]) (by rw [d2 8 (by omega) (by omega), b2 8 (by omega) (by omega)])
    · exact fin 9 (by omega) h2 (b3 _ _ _) (by rw [d2 9 (by omega) (by omega)]) (by rw [d2 10 (by omega) (by omega)])
    · exact fin 11 (by omega) h3 (d3 _ _ _) rfl rfl
  · refine ⟨?_, ?_, ?_, ?_, ?_, ?_, ?_⟩
    · rw [q_ud_n (by omega), q_ud_n (by omega), q_ud_n (by omega), q_ud_n (by omega), q_ud_n (by omega), q_ud_n (by omega), q_ud_s]; rfl
    · rw [q_ud_n (by omega), q_ud_n (by omega), q_ud_n (by omega), q_ud_n (by omega), q_ud_n (by omega), q_ud_s]; rfl
    · rw [q_ud_n (by omega), q_ud_n (by omega), q_ud_n (by omega), q_ud_n (by omega), q_ud_s]; rfl
    · rw [q_ud_n (by omega), q_ud_n (by omega), q_ud_n (by omega), q_ud_s]; rfl
    · rw [q_ud_n (by omega), q_ud_n (by omega), q_ud_s]; rfl
    · rw [q_ud_n (by omega), q_ud_s]; rfl
    · rw [q_ud_s]; rfl
  · rw [q_ud_n (by omega), q_ud_n (by omega), q_ud_n (by omega), q_ud_n (by omega), q_ud_n (by omega), q_ud_n (by omega), q_ud_n (by omega)]
    exact q_ud_s _ _ _ _
  · rw [m_new_0 (by omega)] at hj
    simp at hj
